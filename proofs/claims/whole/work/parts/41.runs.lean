/-! ===== the reference's dates; runs: both sides ===== -/
section DatesB
variable {X : Nat × (Int → Int)} {mem : Mem} {nf : Nat} {fd : Nat → Nat → Int}
theorem finM.o2 {m : Mem} (h : finM mem nf fd) (ho : onO 22 98 mem m) : finM m nf fd := h.off (ho.2 3 (by decide)) (ho.1 91 (by decide) (by decide))
theorem cm_X12_dates {mk lim : Int} (hf : finM mem nf fd) (hr : finR nf fd) (h0 : 0 ≤ lim) (h30 : lim ≤ 30) : CM X (0, 0) 2 mX12_dates G0 [vr 88, vi mk, vi lim] mem (pV G0 fun m => rowAt m (datL fd mk lim nf) ∧ onO 22 98 mem m) := by
  refine CM.of (by decide +kernel) 2 (Nat.le_of_ble_eq_true rfl) ?_
  show ZZ X (0, 0) 2 mX12_dates G0 0 [vr 88, vi mk, vi lim, vd, vd] [] mem _
  have hn := hf.1
  have loop : ∀ (d i : Nat) (m : Mem) (w : VV), i + d = nf → rowAt m (datL fd mk lim i) → onO 22 98 mem m → (∀ z, w ≠ vl z) → ZZ X (0, 0) 2 mX12_dates G0 7 [vr 88, vi mk, vi lim, vi (i : Int), w] [] m (pV G0 fun m => rowAt m (datL fd mk lim nf) ∧ onO 22 98 mem m) := by
    intro d
    induction d with
    | zero =>
      intro i m w hi hL hon hw
      have hfm : finM m nf fd := hf.o2 hon
      have hs := hfm.2.1
      have : i = nf := by omega
      subst this
      refine z_iload_n dX12_dates_7 rfl ?_
      refine z_aload_n dX12_dates_8 rfl ?_
      refine z_gI 3 dX12_dates_9 fl_X12_116 (by first | rfl | assumption) rfl rfl ?_
      rw [hs]
      refine z_icmp_ge 152 dX12_dates_12 (by decide) (fun h12 => ?_) (fun h12 => ?_)
      · refine z_vret dX12_dates_152 rfl ?_
        exact ⟨rfl, rfl, hL, hon⟩
      · omega
    | succ d ih =>
      intro i m w hi hL hon hw
      have hfm : finM m nf fd := hf.o2 hon
      have hs := hfm.2.1
      have b := hr i (by omega)
      have hle := datL_len fd mk lim i
      have skip : ¬ ((fd 0 i = mk ∧ fd 5 i = 0) ∧ 0 ≤ fd 2 i ∧ fd 2 i ≤ lim - 1) → datL fd mk lim (i + 1) = datL fd mk lim i := fun q => if_neg q
      have take : ((fd 0 i = mk ∧ fd 5 i = 0) ∧ 0 ≤ fd 2 i ∧ fd 2 i ≤ lim - 1) → datL fd mk lim (i + 1) = insB (kI fd) (i : Int) (datL fd mk lim i) := fun q => if_pos q
      have mem1 : ∀ j : Nat, j < (datL fd mk lim i).length → ∃ i' : Nat, i' < i ∧ (datL fd mk lim i).getD j 0 = (i' : Int) := fun j hj => by
        obtain ⟨i', a, e, -⟩ := datL_at hj
        exact ⟨i', a, e⟩
      generalize datL fd mk lim i = L at hL hle skip take mem1
      obtain ⟨hsz0, hrow0⟩ := hL
      have hpl := bpl_le (kI fd) (kI fd (i : Int)) L
      have ek : kI fd (i : Int) = fd 2 i * 10000 + fd 1 i := rfl
      have ek' : ∀ j : Nat, kI fd (j : Int) = fd 2 j * 10000 + fd 1 j := fun j => rfl
      have shift : (fd 0 i = mk ∧ fd 5 i = 0) ∧ 0 ≤ fd 2 i ∧ fd 2 i ≤ lim - 1 → ∀ (p : Nat) (m : Mem), p ≤ L.length → onO 22 98 mem m → m 88 22 = (L.length : Int) → (∀ j : Nat, p ≤ j → j < L.length → kI fd (i : Int) < kI fd (L.getD j 0)) → (∀ j : Nat, j < p → j < L.length → m 98 (j : Int) = L.getD j 0) → (∀ j : Nat, p < j → j ≤ L.length → m 98 (j : Int) = L.getD (j - 1) 0) →
          ZZ X (0, 0) 2 mX12_dates G0 48 [vr 88, vi mk, vi lim, vi (i : Int), vi (p : Int)] [] m (pV G0 fun m => rowAt m (datL fd mk lim nf) ∧ onO 22 98 mem m) := by
        intro hc
        have put : ∀ (p : Nat) (m : Mem), p ≤ L.length → onO 22 98 mem m → m 88 22 = (L.length : Int) → p = bpl (kI fd) (kI fd (i : Int)) L → (∀ j : Nat, j < p → j < L.length → m 98 (j : Int) = L.getD j 0) → (∀ j : Nat, p < j → j ≤ L.length → m 98 (j : Int) = L.getD (j - 1) 0) →
            ZZ X (0, 0) 2 mX12_dates G0 128 [vr 88, vi mk, vi lim, vi (i : Int), vi (p : Int)] [] m (pV G0 fun m => rowAt m (datL fd mk lim nf) ∧ onO 22 98 mem m) := by
          intro p m hi hon hsz he hlo hhi
          refine z_aload_n dX12_dates_128 rfl ?_
          refine z_getR (ty := .int) dX12_dates_129 fl_X12_37 (by first | rfl | assumption) rfl rfl ?_
          refine z_iload dX12_dates_132 rfl ?_
          refine z_iload_n dX12_dates_134 rfl ?_
          refine z_iast dX12_dates_135 (by first | rfl | assumption) (by omega) (by omega) ?_
          refine z_aload_n dX12_dates_136 rfl ?_
          refine z_dup dX12_dates_137 (by intro z q; cases q) ?_
          refine z_gI 22 dX12_dates_138 fl_X12_254 (by first | rfl | assumption) rfl rfl ?_
          rw [mset_ne _ (by decide), hsz]
          refine z_iconst dX12_dates_141 (by decide) ?_
          refine z_iadd dX12_dates_142 (by omega) ?_
          refine z_pI 22 dX12_dates_143 fm_X12_254 (by first | rfl | assumption) rfl rfl ?_
          refine z_iinc dX12_dates_146 rfl (by omega) (by decide) rfl ?_
          dsimp only [List.set]
          refine z_goto 7 dX12_dates_149 (by decide) ?_
          refine ih (i + 1) _ _ (by omega) ?_ (hon.tr ⟨fun a ha hb => by rw [mset_ne _ ha, mset_ne _ hb], fun j hj => by rw [mset_nej _ _ hj, mset_ne _ (by decide)]⟩) (by intro z q; cases q)
          rw [take hc]
          refine ⟨?_, ?_⟩
          · rw [mset_eq]; unfold insB; rw [len_ins hpl]; omega
          · unfold insB
            intro j hj
            rw [len_ins hpl] at hj
            rw [getD_ins hpl hj, mset_ne _ (by decide)]
            rw [← he]
            by_cases c1 : j < p
            · rw [if_pos c1, mset_nej _ _ (by omega)]
              exact hlo j c1 (by omega)
            · rw [if_neg c1]
              by_cases c2 : j = p
              · rw [if_pos c2, c2, mset_eq]
              · rw [if_neg c2, mset_nej _ _ (by omega)]
                exact hhi j (by omega) (by omega)
        intro p
        induction p with
        | zero =>
          intro m hi hon hsz hgt hlo hhi
          refine z_iload dX12_dates_48 rfl ?_
          refine z_if_le 128 dX12_dates_50 (by decide) (fun h50 => ?_) (fun h50 => ?_)
          · exact put 0 m hi hon hsz (bpl_uniq hi hgt (fun q => by omega)) hlo hhi
          · omega
        | succ p ihp =>
          intro m hi hon hsz hgt hlo hhi
          have hfm : finM m nf fd := hf.o2 hon
          obtain ⟨i', hi', ei⟩ := mem1 p (by omega)
          have b' := hr i' (by omega)
          have e1 : ((p + 1 : Nat) : Int) - 1 = (p : Int) := by omega
          have ep := hlo p (by omega) (by omega)
          rw [ei] at ep
          refine z_iload dX12_dates_48 rfl ?_
          refine z_if_le 128 dX12_dates_50 (by decide) (fun h50 => ?_) (fun h50 => ?_)
          · omega
          · refine z_sipush dX12_dates_53 (by decide) ?_
            refine z_aload_n dX12_dates_56 rfl ?_
            refine z_aload_n dX12_dates_57 rfl ?_
            refine z_getR (ty := .int) dX12_dates_58 fl_X12_37 (by first | rfl | assumption) rfl rfl ?_
            refine z_iload dX12_dates_61 rfl ?_
            refine z_iconst dX12_dates_63 (by decide) ?_
            refine z_isub dX12_dates_64 (by omega) ?_
            rw [e1]
            refine z_iald dX12_dates_65 (by first | rfl | assumption) (by omega) (by omega) ?_
            rw [ep]
            refine z_iconst dX12_dates_66 (by decide) ?_
            refine z_V2i dX12_dates_67 ok_X12_of lk_X12_122 (by first | rfl | assumption) rfl rfl (Nat.le_of_ble_eq_true rfl) (by decide) (cm_X12_of (i := i') (k := 2) hfm (by omega) (by decide)) (fun z1 m1 hm1 => ?_)
            obtain ⟨rfl, rfl⟩ := hm1
            refine z_imul dX12_dates_70 (by omega) ?_
            refine z_aload_n dX12_dates_71 rfl ?_
            refine z_aload_n dX12_dates_72 rfl ?_
            refine z_getR (ty := .int) dX12_dates_73 fl_X12_37 (by first | rfl | assumption) rfl rfl ?_
            refine z_iload dX12_dates_76 rfl ?_
            refine z_iconst dX12_dates_78 (by decide) ?_
            refine z_isub dX12_dates_79 (by omega) ?_
            rw [e1]
            refine z_iald dX12_dates_80 (by first | rfl | assumption) (by omega) (by omega) ?_
            rw [ep]
            refine z_iconst dX12_dates_81 (by decide) ?_
            refine z_V2i dX12_dates_82 ok_X12_of lk_X12_122 (by first | rfl | assumption) rfl rfl (Nat.le_of_ble_eq_true rfl) (by decide) (cm_X12_of (i := i') (k := 1) hfm (by omega) (by decide)) (fun z1 m1 hm1 => ?_)
            obtain ⟨rfl, rfl⟩ := hm1
            refine z_iadd dX12_dates_85 (by omega) ?_
            refine z_sipush dX12_dates_86 (by decide) ?_
            refine z_aload_n dX12_dates_89 rfl ?_
            refine z_iload_n dX12_dates_90 rfl ?_
            refine z_iconst dX12_dates_91 (by decide) ?_
            refine z_V2i dX12_dates_92 ok_X12_of lk_X12_122 (by first | rfl | assumption) rfl rfl (Nat.le_of_ble_eq_true rfl) (by decide) (cm_X12_of (i := i) (k := 2) hfm (by omega) (by decide)) (fun z1 m1 hm1 => ?_)
            obtain ⟨rfl, rfl⟩ := hm1
            refine z_imul dX12_dates_95 (by omega) ?_
            refine z_aload_n dX12_dates_96 rfl ?_
            refine z_iload_n dX12_dates_97 rfl ?_
            refine z_iconst dX12_dates_98 (by decide) ?_
            refine z_V2i dX12_dates_99 ok_X12_of lk_X12_122 (by first | rfl | assumption) rfl rfl (Nat.le_of_ble_eq_true rfl) (by decide) (cm_X12_of (i := i) (k := 1) hfm (by omega) (by decide)) (fun z1 m1 hm1 => ?_)
            obtain ⟨rfl, rfl⟩ := hm1
            refine z_iadd dX12_dates_102 (by omega) ?_
            refine z_icmp_le 128 dX12_dates_103 (by decide) (fun h103 => ?_) (fun h103 => ?_)
            · refine put (p + 1) m1 hi hon hsz (bpl_uniq hi hgt (fun q => ?_)) hlo hhi
              show kI fd (L.getD p 0) ≤ _
              rw [ei, ek', ek]
              omega
            · refine z_aload_n dX12_dates_106 rfl ?_
              refine z_getR (ty := .int) dX12_dates_107 fl_X12_37 (by first | rfl | assumption) rfl rfl ?_
              refine z_iload dX12_dates_110 rfl ?_
              refine z_aload_n dX12_dates_112 rfl ?_
              refine z_getR (ty := .int) dX12_dates_113 fl_X12_37 (by first | rfl | assumption) rfl rfl ?_
              refine z_iload dX12_dates_116 rfl ?_
              refine z_iconst dX12_dates_118 (by decide) ?_
              refine z_isub dX12_dates_119 (by omega) ?_
              rw [e1]
              refine z_iald dX12_dates_120 (by first | rfl | assumption) (by omega) (by omega) ?_
              rw [ep]
              refine z_iast dX12_dates_121 (by first | rfl | assumption) (by omega) (by omega) ?_
              refine z_iinc dX12_dates_122 rfl (by omega) (by decide) rfl ?_
              dsimp only [List.set]
              refine z_goto 48 dX12_dates_125 (by decide) ?_
              rw [show ((p + 1 : Nat) : Int) + -1 = (p : Int) by omega]
              refine ihp _ (by omega) (hon.tr ⟨fun a ha hb => mset_ne _ hb _ _, fun j hj => by rw [mset_ne _ (by decide)]⟩) (by rw [mset_ne _ (by decide)]; exact hsz) (fun j a b => ?_) (fun j a b => ?_) (fun j a b => ?_)
              · by_cases e : j = p
                · subst e; rw [ei, ek' i', ek' i]; omega
                · exact hgt j (by omega) b
              · rw [mset_nej _ _ (by omega)]
                exact hlo j (by omega) b
              · by_cases e : j = p + 1
                · subst e; rw [mset_eq]; exact ei.symm
                · rw [mset_nej _ _ (by omega)]
                  exact hhi j (by omega) b
      refine z_kill 4 ?_
      dsimp only [List.set]
      refine z_iload_n dX12_dates_7 rfl ?_
      refine z_aload_n dX12_dates_8 rfl ?_
      refine z_gI 3 dX12_dates_9 fl_X12_116 (by first | rfl | assumption) rfl rfl ?_
      rw [hs]
      refine z_icmp_ge 152 dX12_dates_12 (by decide) (fun h12 => ?_) (fun h12 => ?_)
      · omega
      · refine z_aload_n dX12_dates_15 rfl ?_
        refine z_iload_n dX12_dates_16 rfl ?_
        refine z_iload_n dX12_dates_17 rfl ?_
        refine z_V2i dX12_dates_18 ok_X12_counts lk_X12_128 (by first | rfl | assumption) rfl rfl (Nat.le_of_ble_eq_true rfl) (by decide) (cm_X12_counts hfm (show i < nf by omega)) (fun z1 m1 hm1 => ?_)
        obtain ⟨hz1, rfl⟩ := hm1
        refine z_if_eq 146 dX12_dates_21 (by decide) (fun h21 => ?_) (fun h21 => ?_)
        · refine z_iinc dX12_dates_146 rfl (by omega) (by decide) rfl ?_
          dsimp only [List.set]
          refine z_goto 7 dX12_dates_149 (by decide) ?_
          exact ih (i + 1) _ _ (by omega) (by rw [skip (by omega)]; exact ⟨hsz0, hrow0⟩) hon (by intro z q; cases q)
        · refine z_aload_n dX12_dates_24 rfl ?_
          refine z_iload_n dX12_dates_25 rfl ?_
          refine z_iconst dX12_dates_26 (by decide) ?_
          refine z_V2i dX12_dates_27 ok_X12_of lk_X12_122 (by first | rfl | assumption) rfl rfl (Nat.le_of_ble_eq_true rfl) (by decide) (cm_X12_of (i := i) (k := 2) hfm (by omega) (by decide)) (fun z2 m2 hm2 => ?_)
          obtain ⟨rfl, rfl⟩ := hm2
          refine z_i2l dX12_dates_30 ?_
          refine z_lconst (z := 0) dX12_dates_31 rfl (by decide) ?_
          refine z_iload_n dX12_dates_32 rfl ?_
          refine z_iconst dX12_dates_33 (by decide) ?_
          refine z_isub dX12_dates_34 (by omega) ?_
          refine z_i2l dX12_dates_35 ?_
          refine z_S3i dX12_dates_36 ok_X12_in lk_X12_97 (Nat.le_of_ble_eq_true rfl) (by decide) (cm_X12_in) (fun z3 m3 hm3 => ?_)
          obtain ⟨hz3, rfl⟩ := hm3
          refine z_if_eq 146 dX12_dates_39 (by decide) (fun h39 => ?_) (fun h39 => ?_)
          · refine z_iinc dX12_dates_146 rfl (by omega) (by decide) rfl ?_
            dsimp only [List.set]
            refine z_goto 7 dX12_dates_149 (by decide) ?_
            exact ih (i + 1) _ _ (by omega) (by rw [skip (by omega)]; exact ⟨hsz0, hrow0⟩) hon (by intro z q; cases q)
          · refine z_aload_n dX12_dates_42 rfl ?_
            refine z_gI 22 dX12_dates_43 fl_X12_254 (by first | rfl | assumption) rfl rfl ?_
            rw [hsz0]
            refine z_istore dX12_dates_46 (by decide) rfl ?_
            dsimp only [List.set]
            exact shift (by omega) L.length _ (Nat.le_refl _) hon hsz0 (fun j a b => by omega) (fun j _ b => hrow0 j b) (fun j a b => by omega)
  refine z_aload_n dX12_dates_0 rfl ?_
  refine z_iconst dX12_dates_1 (by decide) ?_
  refine z_pI 22 dX12_dates_2 fm_X12_254 (by first | rfl | assumption) rfl rfl ?_
  refine z_iconst dX12_dates_5 (by decide) ?_
  refine z_istore_n dX12_dates_6 (by decide) rfl ?_
  dsimp only [List.set]
  exact loop nf 0 _ _ (by omega) ⟨mset_eq _ _ _ _, fun j h => by simp [datL] at h⟩ ⟨fun a ha _ => mset_ne _ ha _ _, fun j hj => mset_nej _ _ hj _⟩ (by intro z q; cases q)
/-- runs over a line: the number falls at place j -/
abbrev fallP (fd : Nat → Nat → Int) (L : List Int) (j : Nat) : Prop := fd 1 (L.getD j 0).toNat < fd 1 (L.getD (j - 1) 0).toNat
def runN (fd : Nat → Nat → Int) (L : List Int) : Nat → Int
  | 0 => if L.length = 0 then 0 else 1
  | k + 1 => runN fd L k + (if fallP fd L (k + 1) then 1 else 0)
def runW (fd : Nat → Nat → Int) (L : List Int) : Nat → Int
  | 0 => -1
  | k + 1 => if fallP fd L (k + 1) ∧ runW fd L k = -1 then fd 2 (L.getD (k + 1) 0).toNat else runW fd L k
theorem runN_bd (fd : Nat → Nat → Int) (L : List Int) (k : Nat) : 0 ≤ runN fd L k ∧ runN fd L k ≤ (k : Int) + 1 := by
  induction k with
  | zero => show 0 ≤ (if L.length = 0 then (0 : Int) else 1) ∧ (if L.length = 0 then (0 : Int) else 1) ≤ _; split <;> omega
  | succ k ih =>
    show 0 ≤ runN fd L k + (if fallP fd L (k + 1) then 1 else 0) ∧ runN fd L k + (if fallP fd L (k + 1) then 1 else 0) ≤ _
    split <;> omega
theorem runW_keep {fd : Nat → Nat → Int} {L : List Int} {k : Nat} (h : runW fd L k ≠ -1) (d : Nat) : runW fd L (k + d) = runW fd L k := by
  induction d with
  | zero => rfl
  | succ d ih =>
    show (if fallP fd L (k + d + 1) ∧ runW fd L (k + d) = -1 then fd 2 (L.getD (k + d + 1) 0).toNat else runW fd L (k + d)) = _
    rw [if_neg (fun q => h (ih ▸ q.2)), ih]
theorem cm_X2_fallsAt {L : List Int} {j : Nat} (hL : lineAt mem fd L) (hr : ∀ k : Nat, k < L.length → (0 ≤ fd 1 (L.getD k 0).toNat ∧ fd 1 (L.getD k 0).toNat ≤ 9999) ∧ 0 ≤ fd 2 (L.getD k 0).toNat ∧ fd 2 (L.getD k 0).toNat ≤ 29) (h0 : 0 < j) (hj : j < L.length) (hlen : L.length ≤ 60) : CM X (0, 0) 0 mX2_fallsAt G0 [vr 33, vi (j : Int)] mem (pI G0 fun z m => bT z (fallP fd L j) ∧ m = mem) := by
  obtain ⟨hs, hrow⟩ := hL
  have a1 := hr j hj
  have a2 := hr (j - 1) (by omega)
  have r1 := hrow j hj
  have r2 := hrow (j - 1) (by omega)
  rw [show ((j - 1 : Nat) : Int) = (j : Int) - 1 by omega] at r2
  unfold kI at r1 r2
  refine CM.of (by decide +kernel) 0 (Nat.le_of_ble_eq_true rfl) ?_
  show ZZ X (0, 0) 0 mX2_fallsAt G0 0 [vr 33, vi (j : Int)] [] mem _
  refine z_iload_n dX2_fallsAt_0 rfl ?_
  refine z_if_le 41 dX2_fallsAt_1 (by decide) (fun h1 => ?_) (fun h1 => ?_)
  · omega
  · refine z_iload_n dX2_fallsAt_4 rfl ?_
    refine z_aload_n dX2_fallsAt_5 rfl ?_
    refine z_gI 1 dX2_fallsAt_6 fl_X2_26 (by first | rfl | assumption) rfl rfl ?_
    rw [hs]
    refine z_icmp_ge 41 dX2_fallsAt_9 (by decide) (fun h9 => ?_) (fun h9 => ?_)
    · omega
    · refine z_aload_n dX2_fallsAt_12 rfl ?_
      refine z_getR (ty := .int) dX2_fallsAt_13 fl_X2_11 (by first | rfl | assumption) rfl rfl ?_
      refine z_iload_n dX2_fallsAt_16 rfl ?_
      refine z_iald dX2_fallsAt_17 (by first | rfl | assumption) (by omega) (by omega) ?_
      rw [r1]
      refine z_sipush dX2_fallsAt_18 (by decide) ?_
      refine z_iremp dX2_fallsAt_21 (by omega) (by omega) ?_
      refine z_aload_n dX2_fallsAt_22 rfl ?_
      refine z_getR (ty := .int) dX2_fallsAt_23 fl_X2_11 (by first | rfl | assumption) rfl rfl ?_
      refine z_iload_n dX2_fallsAt_26 rfl ?_
      refine z_iconst dX2_fallsAt_27 (by decide) ?_
      refine z_isub dX2_fallsAt_28 (by omega) ?_
      refine z_iald dX2_fallsAt_29 (by first | rfl | assumption) (by omega) (by omega) ?_
      rw [r2]
      refine z_sipush dX2_fallsAt_30 (by decide) ?_
      refine z_iremp dX2_fallsAt_33 (by omega) (by omega) ?_
      refine z_icmp_ge 41 dX2_fallsAt_34 (by decide) (fun h34 => ?_) (fun h34 => ?_)
      · refine z_iconst dX2_fallsAt_41 (by decide) ?_
        refine z_zret dX2_fallsAt_42 rfl (by first | exact Or.inl rfl | exact Or.inr rfl | assumption | (split <;> simp) | omega) ?_
        refine ⟨rfl, _, rfl, ?_, rfl⟩
        unfold bT fallP
        omega
      · refine z_iconst dX2_fallsAt_37 (by decide) ?_
        refine z_goto 42 dX2_fallsAt_38 (by decide) ?_
        refine z_zret dX2_fallsAt_42 rfl (by first | exact Or.inl rfl | exact Or.inr rfl | assumption | (split <;> simp) | omega) ?_
        refine ⟨rfl, _, rfl, ?_, rfl⟩
        unfold bT fallP
        omega
theorem lnR {mk : Int} (hr : finR nf fd) : ∀ k : Nat, k < (datL fd mk 30 nf).length → (0 ≤ fd 1 ((datL fd mk 30 nf).getD k 0).toNat ∧ fd 1 ((datL fd mk 30 nf).getD k 0).toNat ≤ 9999) ∧ 0 ≤ fd 2 ((datL fd mk 30 nf).getD k 0).toNat ∧ fd 2 ((datL fd mk 30 nf).getD k 0).toNat ≤ 29 := by
  intro k hk
  obtain ⟨i, hi, e, h1, h2⟩ := datL_at hk
  rw [e, Int.toNat_natCast]
  exact ⟨(hr i hi).2.1, h1, by omega⟩
theorem cm_X2_runsMet {L : List Int} (hL : lineAt mem fd L) (hr : ∀ k : Nat, k < L.length → (0 ≤ fd 1 (L.getD k 0).toNat ∧ fd 1 (L.getD k 0).toNat ≤ 9999) ∧ 0 ≤ fd 2 (L.getD k 0).toNat ∧ fd 2 (L.getD k 0).toNat ≤ 29) (hlen : L.length ≤ 60) : CM X (0, 0) 1 mX2_runsMet G0 [vr 33] mem (pI G0 fun z m => z = runN fd L (L.length - 1) ∧ m = mem) := by
  have hs := hL.1
  refine CM.of (by decide +kernel) 2 (Nat.le_of_ble_eq_true rfl) ?_
  show ZZ X (0, 0) 1 mX2_runsMet G0 0 [vr 33, vd, vd] [] mem _
  have loop : ∀ (d k : Nat), k + d = L.length - 1 → ZZ X (0, 0) 1 mX2_runsMet G0 15 [vr 33, vi (runN fd L k), vi ((k : Int) + 1)] [] mem (pI G0 fun z m => z = runN fd L (L.length - 1) ∧ m = mem) := by
    intro d
    induction d with
    | zero =>
      intro k hk
      have : k = L.length - 1 := by omega
      subst this
      refine z_iload_n dX2_runsMet_15 rfl ?_
      refine z_aload_n dX2_runsMet_16 rfl ?_
      refine z_gI 1 dX2_runsMet_17 fl_X2_26 (by first | rfl | assumption) rfl rfl ?_
      rw [hs]
      refine z_icmp_ge 40 dX2_runsMet_20 (by decide) (fun h20 => ?_) (fun h20 => ?_)
      · refine z_iload_n dX2_runsMet_40 rfl ?_
        refine z_iret dX2_runsMet_41 rfl ?_
        exact ⟨rfl, _, rfl, rfl, rfl⟩
      · omega
    | succ d ih =>
      intro k hk
      have bd := runN_bd fd L k
      have ih' := ih (k + 1) (by omega)
      have e1 : runN fd L (k + 1) = runN fd L k + (if fallP fd L (k + 1) then 1 else 0) := rfl
      have ej : (k : Int) + 1 = ((k + 1 : Nat) : Int) := by omega
      refine z_iload_n dX2_runsMet_15 rfl ?_
      refine z_aload_n dX2_runsMet_16 rfl ?_
      refine z_gI 1 dX2_runsMet_17 fl_X2_26 (by first | rfl | assumption) rfl rfl ?_
      rw [hs]
      refine z_icmp_ge 40 dX2_runsMet_20 (by decide) (fun h20 => ?_) (fun h20 => ?_)
      · omega
      · refine z_aload_n dX2_runsMet_23 rfl ?_
        refine z_iload_n dX2_runsMet_24 rfl ?_
        refine z_V1i dX2_runsMet_25 ok_X2_fallsAt lk_X2_47 (by first | rfl | assumption) rfl rfl (Nat.le_of_ble_eq_true rfl) (by decide) (ej ▸ cm_X2_fallsAt (j := k + 1) hL hr (by omega) (by omega) hlen) (fun z1 m1 hm1 => ?_)
        obtain ⟨hz1, rfl⟩ := hm1
        refine z_if_eq 34 dX2_runsMet_28 (by decide) (fun h28 => ?_) (fun h28 => ?_)
        · rw [e1, if_neg (by omega)] at ih'
          refine z_iinc dX2_runsMet_34 rfl (by omega) (by decide) rfl ?_
          dsimp only [List.set]
          refine z_goto 15 dX2_runsMet_37 (by decide) ?_
          first | exact ih' | (rw [Int.add_zero] at ih'; exact ih')
        · rw [e1, if_pos (by omega)] at ih'
          refine z_iinc dX2_runsMet_31 rfl (by omega) (by decide) rfl ?_
          dsimp only [List.set]
          refine z_iinc dX2_runsMet_34 rfl (by omega) (by decide) rfl ?_
          dsimp only [List.set]
          refine z_goto 15 dX2_runsMet_37 (by decide) ?_
          first | exact ih' | (rw [Int.add_zero] at ih'; exact ih')
  refine z_aload_n dX2_runsMet_0 rfl ?_
  refine z_gI 1 dX2_runsMet_1 fl_X2_26 (by first | rfl | assumption) rfl rfl ?_
  rw [hs]
  refine z_if_ne 11 dX2_runsMet_4 (by decide) (fun h4 => ?_) (fun h4 => ?_)
  · have e0 : runN fd L 0 = 1 := if_neg (by omega)
    refine z_iconst dX2_runsMet_11 (by decide) ?_
    refine z_istore_n dX2_runsMet_12 (by decide) rfl ?_
    dsimp only [List.set]
    refine z_iconst dX2_runsMet_13 (by decide) ?_
    refine z_istore_n dX2_runsMet_14 (by decide) rfl ?_
    dsimp only [List.set]
    have := loop (L.length - 1) 0 (by omega)
    rw [e0] at this
    exact this
  · have e0 : runN fd L 0 = 0 := if_pos (by omega)
    refine z_iconst dX2_runsMet_7 (by decide) ?_
    refine z_goto 12 dX2_runsMet_8 (by decide) ?_
    refine z_istore_n dX2_runsMet_12 (by decide) rfl ?_
    dsimp only [List.set]
    refine z_iconst dX2_runsMet_13 (by decide) ?_
    refine z_istore_n dX2_runsMet_14 (by decide) rfl ?_
    dsimp only [List.set]
    have := loop (L.length - 1) 0 (by omega)
    rw [e0] at this
    exact this
theorem cm_X2_firstNewRun {L : List Int} (hL : lineAt mem fd L) (hr : ∀ k : Nat, k < L.length → (0 ≤ fd 1 (L.getD k 0).toNat ∧ fd 1 (L.getD k 0).toNat ≤ 9999) ∧ 0 ≤ fd 2 (L.getD k 0).toNat ∧ fd 2 (L.getD k 0).toNat ≤ 29) (hlen : L.length ≤ 60) : CM X (0, 0) 1 mX2_firstNewRun G0 [vr 33] mem (pI G0 fun z m => z = runW fd L (L.length - 1) ∧ m = mem) := by
  have hs := hL.1
  have hrow := hL.2
  refine CM.of (by decide +kernel) 1 (Nat.le_of_ble_eq_true rfl) ?_
  show ZZ X (0, 0) 1 mX2_firstNewRun G0 0 [vr 33, vd] [] mem _
  have loop : ∀ (d k : Nat), k + d = L.length - 1 → runW fd L k = -1 → ZZ X (0, 0) 1 mX2_firstNewRun G0 2 [vr 33, vi ((k : Int) + 1)] [] mem (pI G0 fun z m => z = runW fd L (L.length - 1) ∧ m = mem) := by
    intro d
    induction d with
    | zero =>
      intro k hk hm
      have : k = L.length - 1 := by omega
      subst this
      refine z_iload_n dX2_firstNewRun_2 rfl ?_
      refine z_aload_n dX2_firstNewRun_3 rfl ?_
      refine z_gI 1 dX2_firstNewRun_4 fl_X2_26 (by first | rfl | assumption) rfl rfl ?_
      rw [hs]
      refine z_icmp_ge 35 dX2_firstNewRun_7 (by decide) (fun h7 => ?_) (fun h7 => ?_)
      · refine z_iconst dX2_firstNewRun_35 (by decide) ?_
        refine z_iret dX2_firstNewRun_36 rfl ?_
        exact ⟨rfl, _, rfl, hm.symm, rfl⟩
      · omega
    | succ d ih =>
      intro k hk hm
      have e1 : runW fd L (k + 1) = (if fallP fd L (k + 1) ∧ runW fd L k = -1 then fd 2 (L.getD (k + 1) 0).toNat else runW fd L k) := rfl
      have ej : (k : Int) + 1 = ((k + 1 : Nat) : Int) := by omega
      have a1 := hr (k + 1) (by omega)
      have r1 := hrow (k + 1) (by omega)
      rw [← ej] at r1
      unfold kI at r1
      refine z_iload_n dX2_firstNewRun_2 rfl ?_
      refine z_aload_n dX2_firstNewRun_3 rfl ?_
      refine z_gI 1 dX2_firstNewRun_4 fl_X2_26 (by first | rfl | assumption) rfl rfl ?_
      rw [hs]
      refine z_icmp_ge 35 dX2_firstNewRun_7 (by decide) (fun h7 => ?_) (fun h7 => ?_)
      · omega
      · refine z_aload_n dX2_firstNewRun_10 rfl ?_
        refine z_iload_n dX2_firstNewRun_11 rfl ?_
        refine z_V1i dX2_firstNewRun_12 ok_X2_fallsAt lk_X2_47 (by first | rfl | assumption) rfl rfl (Nat.le_of_ble_eq_true rfl) (by decide) (ej ▸ cm_X2_fallsAt (j := k + 1) hL hr (by omega) (by omega) hlen) (fun z1 m1 hm1 => ?_)
        obtain ⟨hz1, rfl⟩ := hm1
        refine z_if_eq 29 dX2_firstNewRun_15 (by decide) (fun h15 => ?_) (fun h15 => ?_)
        · rw [if_neg (by omega)] at e1
          refine z_iinc dX2_firstNewRun_29 rfl (by omega) (by decide) rfl ?_
          dsimp only [List.set]
          refine z_goto 2 dX2_firstNewRun_32 (by decide) ?_
          exact ih (k + 1) (by omega) (by omega)
        · rw [if_pos (by omega)] at e1
          refine z_aload_n dX2_firstNewRun_18 rfl ?_
          refine z_getR (ty := .int) dX2_firstNewRun_19 fl_X2_11 (by first | rfl | assumption) rfl rfl ?_
          refine z_iload_n dX2_firstNewRun_22 rfl ?_
          refine z_iald dX2_firstNewRun_23 (by first | rfl | assumption) (by omega) (by omega) ?_
          rw [r1]
          refine z_sipush dX2_firstNewRun_24 (by decide) ?_
          refine z_idiv dX2_firstNewRun_27 (by omega) (by omega) ?_
          refine z_iret dX2_firstNewRun_28 rfl ?_
          have hk2 := runW_keep (fd := fd) (L := L) (k := k + 1) (by omega) d
          rw [show k + 1 + d = L.length - 1 by omega] at hk2
          exact ⟨rfl, _, rfl, by rw [hk2, e1]; omega, rfl⟩
  refine z_iconst dX2_firstNewRun_0 (by decide) ?_
  refine z_istore_n dX2_firstNewRun_1 (by decide) rfl ?_
  dsimp only [List.set]
  exact loop (L.length - 1) 0 (by omega) rfl
def rnA (nf : Nat) (fd : Nat → Nat → Int) (mk wh : Int) : Int := if (0 ≤ mk ∧ mk ≤ 5) ∧ 0 ≤ wh ∧ wh ≤ 1 then (if wh = 0 then runN fd (datL fd mk 30 nf) ((datL fd mk 30 nf).length - 1) else runW fd (datL fd mk 30 nf) ((datL fd mk 30 nf).length - 1)) else -2
theorem cm_X11_runs {mk wh : Int} (hf : finC mem nf fd) (hr : finR nf fd) : CM X (0, 0) 2 mX11_runs G0 [vr 0, vi mk, vi wh] mem (pI G0 fun z m => z = rnA nf fd mk wh ∧ onLn mem m) := by
  have hlen := datL_len fd mk 30 nf
  have hn := hf.1
  unfold rnA
  refine CM.of (by decide +kernel) 0 (Nat.le_of_ble_eq_true rfl) ?_
  show ZZ X (0, 0) 2 mX11_runs G0 0 [vr 0, vi mk, vi wh] [] mem _
  refine z_iload_n dX11_runs_0 rfl ?_
  refine z_iconst dX11_runs_1 (by decide) ?_
  refine z_iconst dX11_runs_2 (by decide) ?_
  refine z_S3i dX11_runs_3 ok_X11_within lk_X11_83 (Nat.le_of_ble_eq_true rfl) (by decide) (cm_X11_within) (fun z1 m1 hm1 => ?_)
  obtain ⟨hz1, rfl⟩ := hm1
  refine z_if_eq 18 dX11_runs_6 (by decide) (fun h6 => ?_) (fun h6 => ?_)
  · refine z_bipush dX11_runs_18 (by decide) ?_
    refine z_iret dX11_runs_20 rfl ?_
    exact ⟨rfl, _, rfl, by rw [if_neg (by omega)], onLn.rf⟩
  · refine z_iload_n dX11_runs_9 rfl ?_
    refine z_iconst dX11_runs_10 (by decide) ?_
    refine z_iconst dX11_runs_11 (by decide) ?_
    refine z_S3i dX11_runs_12 ok_X11_within lk_X11_83 (Nat.le_of_ble_eq_true rfl) (by decide) (cm_X11_within) (fun z1 m1 hm1 => ?_)
    obtain ⟨hz2, rfl⟩ := hm1
    refine z_if_ne 21 dX11_runs_15 (by decide) (fun h15 => ?_) (fun h15 => ?_)
    · refine z_aload_n dX11_runs_21 rfl ?_
      refine z_getR (ty := .int) dX11_runs_22 fl_X11_47 (by first | rfl | assumption) rfl rfl ?_
      refine z_aload_n dX11_runs_25 rfl ?_
      refine z_getR (ty := .int) dX11_runs_26 fl_X11_10 (by first | rfl | assumption) rfl rfl ?_
      refine z_iload_n dX11_runs_29 rfl ?_
      refine z_V2v dX11_runs_30 ok_X2_lineUp lk_X11_178 (by first | rfl | assumption) rfl rfl (Nat.le_of_ble_eq_true rfl) (by decide) (cm_X2_lineUp hf hr) (fun m2 hm2 => ?_)
      refine z_iload_n dX11_runs_33 rfl ?_
      refine z_if_ne 47 dX11_runs_34 (by decide) (fun h34 => ?_) (fun h34 => ?_)
      · rw [if_pos (by omega), if_neg h34]
        refine z_aload_n dX11_runs_47 rfl ?_
        refine z_getR (ty := .int) dX11_runs_48 fl_X11_47 (by first | rfl | assumption) rfl rfl ?_
        refine z_V0i dX11_runs_51 ok_X2_firstNewRun lk_X11_185 (by first | rfl | assumption) rfl rfl (Nat.le_of_ble_eq_true rfl) (by decide) (cm_X2_firstNewRun hm2.1 (lnR hr) (by omega)) (fun z3 m3 hm3 => ?_)
        obtain ⟨rfl, rfl⟩ := hm3
        refine z_iret dX11_runs_54 rfl ?_
        exact ⟨rfl, _, rfl, rfl, hm2.2⟩
      · rw [if_pos (by omega), if_pos h34]
        refine z_aload_n dX11_runs_37 rfl ?_
        refine z_getR (ty := .int) dX11_runs_38 fl_X11_47 (by first | rfl | assumption) rfl rfl ?_
        refine z_V0i dX11_runs_41 ok_X2_runsMet lk_X11_182 (by first | rfl | assumption) rfl rfl (Nat.le_of_ble_eq_true rfl) (by decide) (cm_X2_runsMet hm2.1 (lnR hr) (by omega)) (fun z3 m3 hm3 => ?_)
        obtain ⟨rfl, rfl⟩ := hm3
        refine z_goto 54 dX11_runs_44 (by decide) ?_
        refine z_iret dX11_runs_54 rfl ?_
        exact ⟨rfl, _, rfl, rfl, hm2.2⟩
    · refine z_bipush dX11_runs_18 (by decide) ?_
      refine z_iret dX11_runs_20 rfl ?_
      exact ⟨rfl, _, rfl, by rw [if_neg (by omega)], onLn.rf⟩
theorem cm_X12_runsOf {mk wh : Int} (hf : finM mem nf fd) (hr : finR nf fd) : CM X (0, 0) 3 mX12_runsOf G0 [vr 88, vi mk, vi wh] mem (pI G0 fun z m => z = (if wh = 0 then runN fd (datL fd mk 30 nf) ((datL fd mk 30 nf).length - 1) else runW fd (datL fd mk 30 nf) ((datL fd mk 30 nf).length - 1)) ∧ onO 22 98 mem m) := by
  have hlen := datL_len fd mk 30 nf
  have hn := hf.1
  have mem1 : ∀ j : Nat, j < (datL fd mk 30 nf).length → ∃ i' : Nat, i' < nf ∧ (datL fd mk 30 nf).getD j 0 = (i' : Int) := fun j hj => by
    obtain ⟨i', a, e, -⟩ := datL_at hj
    exact ⟨i', a, e⟩
  have hdat := cm_X12_dates (X := X) (mem := mem) (mk := mk) (lim := 30) hf hr (by decide) (by decide)
  generalize datL fd mk 30 nf = L at hlen mem1 hdat
  refine CM.of (by decide +kernel) 4 (Nat.le_of_ble_eq_true rfl) ?_
  show ZZ X (0, 0) 3 mX12_runsOf G0 0 [vr 88, vi mk, vi wh, vd, vd, vd, vd] [] mem _
  have loop : ∀ (m : Mem), rowAt m L → onO 22 98 mem m → ∀ (d k : Nat) (w : VV), k + d = L.length - 1 → (∀ z, w ≠ vl z) → ZZ X (0, 0) 3 mX12_runsOf G0 26 [vr 88, vi mk, vi wh, vi (runN fd L k), vi (runW fd L k), vi ((k : Int) + 1), w] [] m (pI G0 fun z m => z = (if wh = 0 then runN fd L (L.length - 1) else runW fd L (L.length - 1)) ∧ onO 22 98 mem m) := by
    intro m hL hon d
    have hs := hL.1
    have hrow := hL.2
    have hfm : finM m nf fd := hf.o2 hon
    induction d with
    | zero =>
      intro k w hk hw
      have : k = L.length - 1 := by omega
      subst this
      refine z_iload dX12_runsOf_26 rfl ?_
      refine z_aload_n dX12_runsOf_28 rfl ?_
      refine z_gI 22 dX12_runsOf_29 fl_X12_254 (by first | rfl | assumption) rfl rfl ?_
      rw [hs]
      refine z_icmp_ge 120 dX12_runsOf_32 (by decide) (fun h32 => ?_) (fun h32 => ?_)
      · refine z_iload_n dX12_runsOf_120 rfl ?_
        refine z_if_ne 128 dX12_runsOf_121 (by decide) (fun h121 => ?_) (fun h121 => ?_)
        · refine z_iload dX12_runsOf_128 rfl ?_
          refine z_iret dX12_runsOf_130 rfl ?_
          first | exact ⟨rfl, _, rfl, by rw [if_pos (by omega)], hon⟩ | exact ⟨rfl, _, rfl, by rw [if_neg (by omega)], hon⟩
        · refine z_iload_n dX12_runsOf_124 rfl ?_
          refine z_goto 130 dX12_runsOf_125 (by decide) ?_
          refine z_iret dX12_runsOf_130 rfl ?_
          first | exact ⟨rfl, _, rfl, by rw [if_pos (by omega)], hon⟩ | exact ⟨rfl, _, rfl, by rw [if_neg (by omega)], hon⟩
      · omega
    | succ d ih =>
      intro k w hk hw
      have bd := runN_bd fd L k
      have ih' := fun w => ih (k + 1) w (by omega)
      have e1 : runN fd L (k + 1) = runN fd L k + (if fallP fd L (k + 1) then 1 else 0) := rfl
      have e2 : runW fd L (k + 1) = (if fallP fd L (k + 1) ∧ runW fd L k = -1 then fd 2 (L.getD (k + 1) 0).toNat else runW fd L k) := rfl
      have ej : (k : Int) + 1 = ((k + 1 : Nat) : Int) := by omega
      have ek : (k : Int) + 1 - 1 = (k : Int) := by omega
      obtain ⟨i1, hi1, ei1⟩ := mem1 (k + 1) (by omega)
      obtain ⟨i0, hi0, ei0⟩ := mem1 k (by omega)
      have r1 := hrow (k + 1) (by omega)
      rw [← ej, ei1] at r1
      have r0 := hrow k (by omega)
      rw [ei0] at r0
      have ef : fallP fd L (k + 1) ↔ fd 1 i1 < fd 1 i0 := by
        unfold fallP
        rw [ei1, show k + 1 - 1 = k by omega, ei0, Int.toNat_natCast, Int.toNat_natCast]
      have e3 : fd 2 (L.getD (k + 1) 0).toNat = fd 2 i1 := by rw [ei1, Int.toNat_natCast]
      refine z_kill 6 ?_
      dsimp only [List.set]
      refine z_iload dX12_runsOf_26 rfl ?_
      refine z_aload_n dX12_runsOf_28 rfl ?_
      refine z_gI 22 dX12_runsOf_29 fl_X12_254 (by first | rfl | assumption) rfl rfl ?_
      rw [hs]
      refine z_icmp_ge 120 dX12_runsOf_32 (by decide) (fun h32 => ?_) (fun h32 => ?_)
      · omega
      · refine z_aload_n dX12_runsOf_35 rfl ?_
        refine z_aload_n dX12_runsOf_36 rfl ?_
        refine z_getR (ty := .int) dX12_runsOf_37 fl_X12_37 (by first | rfl | assumption) rfl rfl ?_
        refine z_iload dX12_runsOf_40 rfl ?_
        refine z_iald dX12_runsOf_42 (by first | rfl | assumption) (by omega) (by omega) ?_
        rw [r1]
        refine z_iconst dX12_runsOf_43 (by decide) ?_
        refine z_V2i dX12_runsOf_44 ok_X12_of lk_X12_122 (by first | rfl | assumption) rfl rfl (Nat.le_of_ble_eq_true rfl) (by decide) (cm_X12_of (i := i1) (k := 1) hfm (by omega) (by decide)) (fun z1 m1 hm1 => ?_)
        obtain ⟨rfl, rfl⟩ := hm1
        refine z_aload_n dX12_runsOf_47 rfl ?_
        refine z_aload_n dX12_runsOf_48 rfl ?_
        refine z_getR (ty := .int) dX12_runsOf_49 fl_X12_37 (by first | rfl | assumption) rfl rfl ?_
        refine z_iload dX12_runsOf_52 rfl ?_
        refine z_iconst dX12_runsOf_54 (by decide) ?_
        refine z_isub dX12_runsOf_55 (by omega) ?_
        rw [ek]
        refine z_iald dX12_runsOf_56 (by first | rfl | assumption) (by omega) (by omega) ?_
        rw [r0]
        refine z_iconst dX12_runsOf_57 (by decide) ?_
        refine z_V2i dX12_runsOf_58 ok_X12_of lk_X12_122 (by first | rfl | assumption) rfl rfl (Nat.le_of_ble_eq_true rfl) (by decide) (cm_X12_of (i := i0) (k := 1) hfm (by omega) (by decide)) (fun z1 m1 hm1 => ?_)
        obtain ⟨rfl, rfl⟩ := hm1
        refine z_icmp_ge 68 dX12_runsOf_61 (by decide) (fun h61 => ?_) (fun h61 => ?_)
        · refine z_iconst dX12_runsOf_68 (by decide) ?_
          refine z_istore dX12_runsOf_69 (by decide) rfl ?_
          dsimp only [List.set]
          refine z_iload_n dX12_runsOf_71 rfl ?_
          refine z_iload dX12_runsOf_72 rfl ?_
          refine z_if_eq 81 dX12_runsOf_74 (by decide) (fun h74 => ?_) (fun h74 => ?_)
          · have := h74
            refine z_iconst dX12_runsOf_81 (by decide) ?_
            refine z_iadd dX12_runsOf_82 (by omega) ?_
            refine z_istore_n dX12_runsOf_83 (by decide) rfl ?_
            dsimp only [List.set]
            refine z_iload dX12_runsOf_84 rfl ?_
            refine z_if_eq 110 dX12_runsOf_86 (by decide) (fun h86 => ?_) (fun h86 => ?_)
            · refine z_iload dX12_runsOf_110 rfl ?_
              refine z_istore dX12_runsOf_112 (by decide) rfl ?_
              dsimp only [List.set]
              refine z_iinc dX12_runsOf_114 rfl (by omega) (by decide) rfl ?_
              dsimp only [List.set]
              refine z_goto 26 dX12_runsOf_117 (by decide) ?_
              first | omega | skip
              all_goals
                have ih'' := ih' (vi 0) (by intro z q; cases q)
                have ih3 := ih' (vi 1) (by intro z q; cases q)
                first | (rw [e1, e2, if_pos (by omega), if_pos (by omega), e3] at ih3; exact ih3) | (rw [e1, e2, if_pos (by omega), if_neg (by omega)] at ih3; exact ih3) | (rw [e1, e2, if_neg (by omega), if_neg (by omega)] at ih''; exact ih'')
            · refine z_iload dX12_runsOf_89 rfl ?_
              refine z_iconst dX12_runsOf_91 (by decide) ?_
              refine z_icmp_ne 110 dX12_runsOf_92 (by decide) (fun h92 => ?_) (fun h92 => ?_)
              · refine z_iload dX12_runsOf_110 rfl ?_
                refine z_istore dX12_runsOf_112 (by decide) rfl ?_
                dsimp only [List.set]
                refine z_iinc dX12_runsOf_114 rfl (by omega) (by decide) rfl ?_
                dsimp only [List.set]
                refine z_goto 26 dX12_runsOf_117 (by decide) ?_
                first | omega | skip
                all_goals
                  have ih'' := ih' (vi 0) (by intro z q; cases q)
                  have ih3 := ih' (vi 1) (by intro z q; cases q)
                  first | (rw [e1, e2, if_pos (by omega), if_pos (by omega), e3] at ih3; exact ih3) | (rw [e1, e2, if_pos (by omega), if_neg (by omega)] at ih3; exact ih3) | (rw [e1, e2, if_neg (by omega), if_neg (by omega)] at ih''; exact ih'')
              · refine z_aload_n dX12_runsOf_95 rfl ?_
                refine z_aload_n dX12_runsOf_96 rfl ?_
                refine z_getR (ty := .int) dX12_runsOf_97 fl_X12_37 (by first | rfl | assumption) rfl rfl ?_
                refine z_iload dX12_runsOf_100 rfl ?_
                refine z_iald dX12_runsOf_102 (by first | rfl | assumption) (by omega) (by omega) ?_
                rw [r1]
                refine z_iconst dX12_runsOf_103 (by decide) ?_
                refine z_V2i dX12_runsOf_104 ok_X12_of lk_X12_122 (by first | rfl | assumption) rfl rfl (Nat.le_of_ble_eq_true rfl) (by decide) (cm_X12_of (i := i1) (k := 2) hfm (by omega) (by decide)) (fun z1 m1 hm1 => ?_)
                obtain ⟨rfl, rfl⟩ := hm1
                refine z_goto 112 dX12_runsOf_107 (by decide) ?_
                refine z_istore dX12_runsOf_112 (by decide) rfl ?_
                dsimp only [List.set]
                refine z_iinc dX12_runsOf_114 rfl (by omega) (by decide) rfl ?_
                dsimp only [List.set]
                refine z_goto 26 dX12_runsOf_117 (by decide) ?_
                first | omega | skip
                all_goals
                  have ih'' := ih' (vi 0) (by intro z q; cases q)
                  have ih3 := ih' (vi 1) (by intro z q; cases q)
                  first | (rw [e1, e2, if_pos (by omega), if_pos (by omega), e3] at ih3; exact ih3) | (rw [e1, e2, if_pos (by omega), if_neg (by omega)] at ih3; exact ih3) | (rw [e1, e2, if_neg (by omega), if_neg (by omega)] at ih''; exact ih'')
          · refine z_iconst dX12_runsOf_77 (by decide) ?_
            refine z_goto 82 dX12_runsOf_78 (by decide) ?_
            refine z_iadd dX12_runsOf_82 (by omega) ?_
            refine z_istore_n dX12_runsOf_83 (by decide) rfl ?_
            dsimp only [List.set]
            refine z_iload dX12_runsOf_84 rfl ?_
            refine z_if_eq 110 dX12_runsOf_86 (by decide) (fun h86 => ?_) (fun h86 => ?_)
            · refine z_iload dX12_runsOf_110 rfl ?_
              refine z_istore dX12_runsOf_112 (by decide) rfl ?_
              dsimp only [List.set]
              refine z_iinc dX12_runsOf_114 rfl (by omega) (by decide) rfl ?_
              dsimp only [List.set]
              refine z_goto 26 dX12_runsOf_117 (by decide) ?_
              first | omega | skip
              all_goals
                have ih'' := ih' (vi 0) (by intro z q; cases q)
                have ih3 := ih' (vi 1) (by intro z q; cases q)
                first | (rw [e1, e2, if_pos (by omega), if_pos (by omega), e3] at ih3; exact ih3) | (rw [e1, e2, if_pos (by omega), if_neg (by omega)] at ih3; exact ih3) | (rw [e1, e2, if_neg (by omega), if_neg (by omega)] at ih''; exact ih'')
            · refine z_iload dX12_runsOf_89 rfl ?_
              refine z_iconst dX12_runsOf_91 (by decide) ?_
              refine z_icmp_ne 110 dX12_runsOf_92 (by decide) (fun h92 => ?_) (fun h92 => ?_)
              · refine z_iload dX12_runsOf_110 rfl ?_
                refine z_istore dX12_runsOf_112 (by decide) rfl ?_
                dsimp only [List.set]
                refine z_iinc dX12_runsOf_114 rfl (by omega) (by decide) rfl ?_
                dsimp only [List.set]
                refine z_goto 26 dX12_runsOf_117 (by decide) ?_
                first | omega | skip
                all_goals
                  have ih'' := ih' (vi 0) (by intro z q; cases q)
                  have ih3 := ih' (vi 1) (by intro z q; cases q)
                  first | (rw [e1, e2, if_pos (by omega), if_pos (by omega), e3] at ih3; exact ih3) | (rw [e1, e2, if_pos (by omega), if_neg (by omega)] at ih3; exact ih3) | (rw [e1, e2, if_neg (by omega), if_neg (by omega)] at ih''; exact ih'')
              · refine z_aload_n dX12_runsOf_95 rfl ?_
                refine z_aload_n dX12_runsOf_96 rfl ?_
                refine z_getR (ty := .int) dX12_runsOf_97 fl_X12_37 (by first | rfl | assumption) rfl rfl ?_
                refine z_iload dX12_runsOf_100 rfl ?_
                refine z_iald dX12_runsOf_102 (by first | rfl | assumption) (by omega) (by omega) ?_
                rw [r1]
                refine z_iconst dX12_runsOf_103 (by decide) ?_
                refine z_V2i dX12_runsOf_104 ok_X12_of lk_X12_122 (by first | rfl | assumption) rfl rfl (Nat.le_of_ble_eq_true rfl) (by decide) (cm_X12_of (i := i1) (k := 2) hfm (by omega) (by decide)) (fun z1 m1 hm1 => ?_)
                obtain ⟨rfl, rfl⟩ := hm1
                refine z_goto 112 dX12_runsOf_107 (by decide) ?_
                refine z_istore dX12_runsOf_112 (by decide) rfl ?_
                dsimp only [List.set]
                refine z_iinc dX12_runsOf_114 rfl (by omega) (by decide) rfl ?_
                dsimp only [List.set]
                refine z_goto 26 dX12_runsOf_117 (by decide) ?_
                first | omega | skip
                all_goals
                  have ih'' := ih' (vi 0) (by intro z q; cases q)
                  have ih3 := ih' (vi 1) (by intro z q; cases q)
                  first | (rw [e1, e2, if_pos (by omega), if_pos (by omega), e3] at ih3; exact ih3) | (rw [e1, e2, if_pos (by omega), if_neg (by omega)] at ih3; exact ih3) | (rw [e1, e2, if_neg (by omega), if_neg (by omega)] at ih''; exact ih'')
        · refine z_iconst dX12_runsOf_64 (by decide) ?_
          refine z_goto 69 dX12_runsOf_65 (by decide) ?_
          refine z_istore dX12_runsOf_69 (by decide) rfl ?_
          dsimp only [List.set]
          refine z_iload_n dX12_runsOf_71 rfl ?_
          refine z_iload dX12_runsOf_72 rfl ?_
          refine z_if_eq 81 dX12_runsOf_74 (by decide) (fun h74 => ?_) (fun h74 => ?_)
          · have := h74
            refine z_iconst dX12_runsOf_81 (by decide) ?_
            refine z_iadd dX12_runsOf_82 (by omega) ?_
            refine z_istore_n dX12_runsOf_83 (by decide) rfl ?_
            dsimp only [List.set]
            refine z_iload dX12_runsOf_84 rfl ?_
            refine z_if_eq 110 dX12_runsOf_86 (by decide) (fun h86 => ?_) (fun h86 => ?_)
            · refine z_iload dX12_runsOf_110 rfl ?_
              refine z_istore dX12_runsOf_112 (by decide) rfl ?_
              dsimp only [List.set]
              refine z_iinc dX12_runsOf_114 rfl (by omega) (by decide) rfl ?_
              dsimp only [List.set]
              refine z_goto 26 dX12_runsOf_117 (by decide) ?_
              first | omega | skip
              all_goals
                have ih'' := ih' (vi 0) (by intro z q; cases q)
                have ih3 := ih' (vi 1) (by intro z q; cases q)
                first | (rw [e1, e2, if_pos (by omega), if_pos (by omega), e3] at ih3; exact ih3) | (rw [e1, e2, if_pos (by omega), if_neg (by omega)] at ih3; exact ih3) | (rw [e1, e2, if_neg (by omega), if_neg (by omega)] at ih''; exact ih'')
            · refine z_iload dX12_runsOf_89 rfl ?_
              refine z_iconst dX12_runsOf_91 (by decide) ?_
              refine z_icmp_ne 110 dX12_runsOf_92 (by decide) (fun h92 => ?_) (fun h92 => ?_)
              · refine z_iload dX12_runsOf_110 rfl ?_
                refine z_istore dX12_runsOf_112 (by decide) rfl ?_
                dsimp only [List.set]
                refine z_iinc dX12_runsOf_114 rfl (by omega) (by decide) rfl ?_
                dsimp only [List.set]
                refine z_goto 26 dX12_runsOf_117 (by decide) ?_
                first | omega | skip
                all_goals
                  have ih'' := ih' (vi 0) (by intro z q; cases q)
                  have ih3 := ih' (vi 1) (by intro z q; cases q)
                  first | (rw [e1, e2, if_pos (by omega), if_pos (by omega), e3] at ih3; exact ih3) | (rw [e1, e2, if_pos (by omega), if_neg (by omega)] at ih3; exact ih3) | (rw [e1, e2, if_neg (by omega), if_neg (by omega)] at ih''; exact ih'')
              · refine z_aload_n dX12_runsOf_95 rfl ?_
                refine z_aload_n dX12_runsOf_96 rfl ?_
                refine z_getR (ty := .int) dX12_runsOf_97 fl_X12_37 (by first | rfl | assumption) rfl rfl ?_
                refine z_iload dX12_runsOf_100 rfl ?_
                refine z_iald dX12_runsOf_102 (by first | rfl | assumption) (by omega) (by omega) ?_
                rw [r1]
                refine z_iconst dX12_runsOf_103 (by decide) ?_
                refine z_V2i dX12_runsOf_104 ok_X12_of lk_X12_122 (by first | rfl | assumption) rfl rfl (Nat.le_of_ble_eq_true rfl) (by decide) (cm_X12_of (i := i1) (k := 2) hfm (by omega) (by decide)) (fun z1 m1 hm1 => ?_)
                obtain ⟨rfl, rfl⟩ := hm1
                refine z_goto 112 dX12_runsOf_107 (by decide) ?_
                refine z_istore dX12_runsOf_112 (by decide) rfl ?_
                dsimp only [List.set]
                refine z_iinc dX12_runsOf_114 rfl (by omega) (by decide) rfl ?_
                dsimp only [List.set]
                refine z_goto 26 dX12_runsOf_117 (by decide) ?_
                first | omega | skip
                all_goals
                  have ih'' := ih' (vi 0) (by intro z q; cases q)
                  have ih3 := ih' (vi 1) (by intro z q; cases q)
                  first | (rw [e1, e2, if_pos (by omega), if_pos (by omega), e3] at ih3; exact ih3) | (rw [e1, e2, if_pos (by omega), if_neg (by omega)] at ih3; exact ih3) | (rw [e1, e2, if_neg (by omega), if_neg (by omega)] at ih''; exact ih'')
          · refine z_iconst dX12_runsOf_77 (by decide) ?_
            refine z_goto 82 dX12_runsOf_78 (by decide) ?_
            refine z_iadd dX12_runsOf_82 (by omega) ?_
            refine z_istore_n dX12_runsOf_83 (by decide) rfl ?_
            dsimp only [List.set]
            refine z_iload dX12_runsOf_84 rfl ?_
            refine z_if_eq 110 dX12_runsOf_86 (by decide) (fun h86 => ?_) (fun h86 => ?_)
            · refine z_iload dX12_runsOf_110 rfl ?_
              refine z_istore dX12_runsOf_112 (by decide) rfl ?_
              dsimp only [List.set]
              refine z_iinc dX12_runsOf_114 rfl (by omega) (by decide) rfl ?_
              dsimp only [List.set]
              refine z_goto 26 dX12_runsOf_117 (by decide) ?_
              first | omega | skip
              all_goals
                have ih'' := ih' (vi 0) (by intro z q; cases q)
                have ih3 := ih' (vi 1) (by intro z q; cases q)
                first | (rw [e1, e2, if_pos (by omega), if_pos (by omega), e3] at ih3; exact ih3) | (rw [e1, e2, if_pos (by omega), if_neg (by omega)] at ih3; exact ih3) | (rw [e1, e2, if_neg (by omega), if_neg (by omega)] at ih''; exact ih'')
            · refine z_iload dX12_runsOf_89 rfl ?_
              refine z_iconst dX12_runsOf_91 (by decide) ?_
              refine z_icmp_ne 110 dX12_runsOf_92 (by decide) (fun h92 => ?_) (fun h92 => ?_)
              · refine z_iload dX12_runsOf_110 rfl ?_
                refine z_istore dX12_runsOf_112 (by decide) rfl ?_
                dsimp only [List.set]
                refine z_iinc dX12_runsOf_114 rfl (by omega) (by decide) rfl ?_
                dsimp only [List.set]
                refine z_goto 26 dX12_runsOf_117 (by decide) ?_
                first | omega | skip
                all_goals
                  have ih'' := ih' (vi 0) (by intro z q; cases q)
                  have ih3 := ih' (vi 1) (by intro z q; cases q)
                  first | (rw [e1, e2, if_pos (by omega), if_pos (by omega), e3] at ih3; exact ih3) | (rw [e1, e2, if_pos (by omega), if_neg (by omega)] at ih3; exact ih3) | (rw [e1, e2, if_neg (by omega), if_neg (by omega)] at ih''; exact ih'')
              · refine z_aload_n dX12_runsOf_95 rfl ?_
                refine z_aload_n dX12_runsOf_96 rfl ?_
                refine z_getR (ty := .int) dX12_runsOf_97 fl_X12_37 (by first | rfl | assumption) rfl rfl ?_
                refine z_iload dX12_runsOf_100 rfl ?_
                refine z_iald dX12_runsOf_102 (by first | rfl | assumption) (by omega) (by omega) ?_
                rw [r1]
                refine z_iconst dX12_runsOf_103 (by decide) ?_
                refine z_V2i dX12_runsOf_104 ok_X12_of lk_X12_122 (by first | rfl | assumption) rfl rfl (Nat.le_of_ble_eq_true rfl) (by decide) (cm_X12_of (i := i1) (k := 2) hfm (by omega) (by decide)) (fun z1 m1 hm1 => ?_)
                obtain ⟨rfl, rfl⟩ := hm1
                refine z_goto 112 dX12_runsOf_107 (by decide) ?_
                refine z_istore dX12_runsOf_112 (by decide) rfl ?_
                dsimp only [List.set]
                refine z_iinc dX12_runsOf_114 rfl (by omega) (by decide) rfl ?_
                dsimp only [List.set]
                refine z_goto 26 dX12_runsOf_117 (by decide) ?_
                first | omega | skip
                all_goals
                  have ih'' := ih' (vi 0) (by intro z q; cases q)
                  have ih3 := ih' (vi 1) (by intro z q; cases q)
                  first | (rw [e1, e2, if_pos (by omega), if_pos (by omega), e3] at ih3; exact ih3) | (rw [e1, e2, if_pos (by omega), if_neg (by omega)] at ih3; exact ih3) | (rw [e1, e2, if_neg (by omega), if_neg (by omega)] at ih''; exact ih'')
  refine z_aload_n dX12_runsOf_0 rfl ?_
  refine z_iload_n dX12_runsOf_1 rfl ?_
  refine z_bipush dX12_runsOf_2 (by decide) ?_
  refine z_V2v dX12_runsOf_4 ok_X12_dates lk_X12_257 (by first | rfl | assumption) rfl rfl (Nat.le_of_ble_eq_true rfl) (by decide) (hdat) (fun m2 hm2 => ?_)
  obtain ⟨hL, hon⟩ := hm2
  have hs := hL.1
  refine z_aload_n dX12_runsOf_7 rfl ?_
  refine z_gI 22 dX12_runsOf_8 fl_X12_254 (by first | rfl | assumption) rfl rfl ?_
  rw [hs]
  refine z_if_ne 18 dX12_runsOf_11 (by decide) (fun h11 => ?_) (fun h11 => ?_)
  · have e0 : runN fd L 0 = 1 := if_neg (by omega)
    refine z_iconst dX12_runsOf_18 (by decide) ?_
    refine z_istore_n dX12_runsOf_19 (by decide) rfl ?_
    dsimp only [List.set]
    refine z_iconst dX12_runsOf_20 (by decide) ?_
    refine z_istore dX12_runsOf_21 (by decide) rfl ?_
    dsimp only [List.set]
    refine z_iconst dX12_runsOf_23 (by decide) ?_
    refine z_istore dX12_runsOf_24 (by decide) rfl ?_
    dsimp only [List.set]
    have := loop _ hL hon (L.length - 1) 0 vd (by omega) (by intro z q; cases q)
    rw [e0] at this
    exact this
  · have e0 : runN fd L 0 = 0 := if_pos (by omega)
    refine z_iconst dX12_runsOf_14 (by decide) ?_
    refine z_goto 19 dX12_runsOf_15 (by decide) ?_
    refine z_istore_n dX12_runsOf_19 (by decide) rfl ?_
    dsimp only [List.set]
    refine z_iconst dX12_runsOf_20 (by decide) ?_
    refine z_istore dX12_runsOf_21 (by decide) rfl ?_
    dsimp only [List.set]
    refine z_iconst dX12_runsOf_23 (by decide) ?_
    refine z_istore dX12_runsOf_24 (by decide) rfl ?_
    dsimp only [List.set]
    have := loop _ hL hon (L.length - 1) 0 vd (by omega) (by intro z q; cases q)
    rw [e0] at this
    exact this
theorem cm_X12_runs {mk wh : Int} (hf : finM mem nf fd) (hr : finR nf fd) : CM X (0, 0) 4 mX12_runs G0 [vr 88, vi mk, vi wh] mem (pI G0 fun z m => z = rnA nf fd mk wh ∧ onO 22 98 mem m) := by
  unfold rnA
  refine CM.of (by decide +kernel) 0 (Nat.le_of_ble_eq_true rfl) ?_
  show ZZ X (0, 0) 4 mX12_runs G0 0 [vr 88, vi mk, vi wh] [] mem _
  refine z_iload_n dX12_runs_0 rfl ?_
  refine z_S1i dX12_runs_1 ok_X12_isMaker lk_X12_103 (Nat.le_of_ble_eq_true rfl) (by decide) (cm_X12_isMaker) (fun z1 m1 hm1 => ?_)
  obtain ⟨hz1, rfl⟩ := hm1
  refine z_if_eq 26 dX12_runs_4 (by decide) (fun h4 => ?_) (fun h4 => ?_)
  · refine z_bipush dX12_runs_26 (by decide) ?_
    refine z_iret dX12_runs_28 rfl ?_
    first | exact ⟨rfl, _, rfl, by rw [if_pos (by omega)]; exact hm2.1, hm2.2⟩ | exact ⟨rfl, _, rfl, by rw [if_neg (by omega)], onO.rf⟩
  · refine z_iload_n dX12_runs_7 rfl ?_
    refine z_i2l dX12_runs_8 ?_
    refine z_lconst (z := 0) dX12_runs_9 rfl (by decide) ?_
    refine z_lconst (z := 1) dX12_runs_10 rfl (by decide) ?_
    refine z_S3i dX12_runs_11 ok_X12_in lk_X12_97 (Nat.le_of_ble_eq_true rfl) (by decide) (cm_X12_in) (fun z1 m1 hm1 => ?_)
    obtain ⟨hz2, rfl⟩ := hm1
    refine z_if_eq 26 dX12_runs_14 (by decide) (fun h14 => ?_) (fun h14 => ?_)
    · refine z_bipush dX12_runs_26 (by decide) ?_
      refine z_iret dX12_runs_28 rfl ?_
      first | exact ⟨rfl, _, rfl, by rw [if_pos (by omega)]; exact hm2.1, hm2.2⟩ | exact ⟨rfl, _, rfl, by rw [if_neg (by omega)], onO.rf⟩
    · refine z_aload_n dX12_runs_17 rfl ?_
      refine z_iload_n dX12_runs_18 rfl ?_
      refine z_iload_n dX12_runs_19 rfl ?_
      refine z_V2i dX12_runs_20 ok_X12_runsOf lk_X12_260 (by first | rfl | assumption) rfl rfl (Nat.le_of_ble_eq_true rfl) (by decide) (cm_X12_runsOf hf hr) (fun z2 m2 hm2 => ?_)
      refine z_goto 28 dX12_runs_23 (by decide) ?_
      refine z_iret dX12_runs_28 rfl ?_
      first | exact ⟨rfl, _, rfl, by rw [if_pos (by omega)]; exact hm2.1, hm2.2⟩ | exact ⟨rfl, _, rfl, by rw [if_neg (by omega)], onO.rf⟩
end DatesB
