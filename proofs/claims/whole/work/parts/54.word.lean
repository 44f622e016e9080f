/-! ===== word, wordless: both sides ===== -/
section WordA
variable {X : Nat × (Int → Int)} {mem : Mem} {nw : Nat} {wd : Nat → Nat → Int}
def rowsOf (l : Int) : Int := if l = 1 then 6 else if l = 2 then 36 else if l = 3 then 216 else 1296
def okRow (l c : Int) : Prop := (1 ≤ l ∧ l ≤ 4) ∧ 0 ≤ c ∧ c ≤ rowsOf l - 1
theorem cm_X10_isRow {l c : Int} : CM X (0, 0) 1 mX10_isRow G0 [vi l, vi c] mem (pI G0 fun z m => bT z (okRow l c) ∧ m = mem) := by
  unfold okRow rowsOf
  refine CM.of (by decide +kernel) 0 (Nat.le_of_ble_eq_true rfl) ?_
  show ZZ X (0, 0) 1 mX10_isRow G0 0 [vi l, vi c] [] mem _
  refine z_iload_n dX10_isRow_0 rfl ?_
  refine z_iconst dX10_isRow_1 (by decide) ?_
  refine z_iconst dX10_isRow_2 (by decide) ?_
  refine z_S3i dX10_isRow_3 ok_X11_within lk_X10_33 (Nat.le_of_ble_eq_true rfl) (by decide) (cm_X11_within) (fun z1 m1 hm1 => ?_)
  obtain ⟨hz1, rfl⟩ := hm1
  refine z_if_eq 28 dX10_isRow_6 (by decide) (fun h6 => ?_) (fun h6 => ?_)
  · refine z_iconst dX10_isRow_28 (by decide) ?_
    refine z_zret dX10_isRow_29 rfl (by first | exact Or.inl rfl | exact Or.inr rfl | assumption | (split <;> simp) | omega) ?_
    first | exact ⟨rfl, _, rfl, Or.inr ⟨rfl, by omega⟩, rfl⟩ | exact ⟨rfl, _, rfl, Or.inl ⟨rfl, by omega⟩, rfl⟩
  · obtain rfl | rfl | rfl | rfl : l = 1 ∨ l = 2 ∨ l = 3 ∨ l = 4 := by omega
    all_goals
      refine z_iload_n dX10_isRow_9 rfl ?_
      refine z_iconst dX10_isRow_10 (by decide) ?_
      refine z_gets _ sl_X10_37 dX10_isRow_11 ?_
      refine z_iload_n dX10_isRow_14 rfl ?_
      refine z_sald dX10_isRow_15 rfl (by decide) (by decide) ?_
      refine z_iconst dX10_isRow_16 (by decide) ?_
      refine z_isub dX10_isRow_17 (by decide +kernel) ?_
      refine z_S3i dX10_isRow_18 ok_X11_within lk_X10_33 (Nat.le_of_ble_eq_true rfl) (by decide) (cm_X11_within) (fun z2 m2 hm2 => ?_)
      obtain ⟨hz2, rfl⟩ := hm2
      refine z_if_eq 28 dX10_isRow_21 (by decide) (fun h21 => ?_) (fun h21 => ?_)
      · refine z_iconst dX10_isRow_28 (by decide) ?_
        refine z_zret dX10_isRow_29 rfl (by first | exact Or.inl rfl | exact Or.inr rfl) ?_
        refine ⟨rfl, _, rfl, Or.inr ⟨rfl, fun q => ?_⟩, rfl⟩
        rcases hz2 with ⟨q1, q2⟩ | ⟨q1, q2⟩
        · omega
        · exact q2 ⟨q.2.1, q.2.2⟩
      · refine z_iconst dX10_isRow_24 (by decide) ?_
        refine z_goto 29 dX10_isRow_25 (by decide) ?_
        refine z_zret dX10_isRow_29 rfl (by first | exact Or.inl rfl | exact Or.inr rfl) ?_
        refine ⟨rfl, _, rfl, Or.inl ⟨rfl, by decide, ?_⟩, rfl⟩
        rcases hz2 with ⟨q1, q2⟩ | ⟨q1, q2⟩
        · exact ⟨q2.1, q2.2⟩
        · omega
def okWord (l c lo hi : Int) : Prop := okRow l c ∧ (0 ≤ lo ∧ lo ≤ hi) ∧ hi ≤ 9999
def v4 (a b c d : Int) (k : Nat) : Int := match k with
  | 0 => a
  | 1 => b
  | 2 => c
  | _ => d
theorem cm_X10_add {l c lo hi : Int} (hf : wdC mem nw wd) : CM X (0, 0) 0 mX10_add G0 [vr 22, vi l, vi c, vi lo, vi hi] mem (pI G0 fun z m => (nw = 12 → z = -4 ∧ m = mem) ∧ (nw < 12 → z = (nw : Int) ∧ wdC m (nw + 1) (fdU wd nw (v4 l c lo hi)) ∧ m 22 5 = 0 ∧ (∀ x, x < 22 ∨ 26 < x → m x = mem x) ∧ ∀ j, j ≠ 4 → j ≠ 5 → m 22 j = mem 22 j)) := by
  obtain ⟨hn, hs, hrow⟩ := hf
  refine CM.of (by decide +kernel) 0 (Nat.le_of_ble_eq_true rfl) ?_
  show ZZ X (0, 0) 0 mX10_add G0 0 [vr 22, vi l, vi c, vi lo, vi hi] [] mem _
  refine z_aload_n dX10_add_0 rfl ?_
  refine z_gI 4 dX10_add_1 fl_X10_40 (by first | rfl | assumption) rfl rfl ?_
  rw [hs]
  refine z_bipush dX10_add_4 (by decide) ?_
  refine z_icmp_lt 12 dX10_add_6 (by decide) (fun h6 => ?_) (fun h6 => ?_)
  · refine z_aload_n dX10_add_12 rfl ?_
    refine z_getR (ty := .int) dX10_add_13 fl_X10_11 (by first | rfl | assumption) rfl rfl ?_
    refine z_aload_n dX10_add_16 rfl ?_
    refine z_gI 4 dX10_add_17 fl_X10_40 (by first | rfl | assumption) rfl rfl ?_
    rw [hs]
    refine z_iload_n dX10_add_20 rfl ?_
    refine z_iast dX10_add_21 (by first | rfl | assumption) (by omega) (by omega) ?_
    refine z_aload_n dX10_add_22 rfl ?_
    refine z_getR (ty := .int) dX10_add_23 fl_X10_15 (by first | rfl | assumption) rfl rfl ?_
    refine z_aload_n dX10_add_26 rfl ?_
    refine z_gI 4 dX10_add_27 fl_X10_40 (by first | rfl | assumption) rfl rfl ?_
    rw [mset_ne _ (by decide), hs]
    refine z_iload_n dX10_add_30 rfl ?_
    refine z_iast dX10_add_31 (by first | rfl | assumption) (by omega) (by omega) ?_
    refine z_aload_n dX10_add_32 rfl ?_
    refine z_getR (ty := .int) dX10_add_33 fl_X10_18 (by first | rfl | assumption) rfl rfl ?_
    refine z_aload_n dX10_add_36 rfl ?_
    refine z_gI 4 dX10_add_37 fl_X10_40 (by first | rfl | assumption) rfl rfl ?_
    rw [mset_ne _ (by decide), mset_ne _ (by decide), hs]
    refine z_iload_n dX10_add_40 rfl ?_
    refine z_iast dX10_add_41 (by first | rfl | assumption) (by omega) (by omega) ?_
    refine z_aload_n dX10_add_42 rfl ?_
    refine z_getR (ty := .int) dX10_add_43 fl_X10_21 (by first | rfl | assumption) rfl rfl ?_
    refine z_aload_n dX10_add_46 rfl ?_
    refine z_gI 4 dX10_add_47 fl_X10_40 (by first | rfl | assumption) rfl rfl ?_
    rw [mset_ne _ (by decide), mset_ne _ (by decide), mset_ne _ (by decide), hs]
    refine z_iload dX10_add_50 rfl ?_
    refine z_iast dX10_add_52 (by first | rfl | assumption) (by omega) (by omega) ?_
    refine z_aload_n dX10_add_53 rfl ?_
    refine z_dup dX10_add_54 (by intro z q; cases q) ?_
    refine z_gI 4 dX10_add_55 fl_X10_40 (by first | rfl | assumption) rfl rfl ?_
    rw [mset_ne _ (by decide), mset_ne _ (by decide), mset_ne _ (by decide), mset_ne _ (by decide), hs]
    refine z_iconst dX10_add_58 (by decide) ?_
    refine z_iadd dX10_add_59 (by omega) ?_
    refine z_pI 4 dX10_add_60 fm_X10_40 (by first | rfl | assumption) rfl rfl ?_
    refine z_aload_n dX10_add_63 rfl ?_
    refine z_iconst dX10_add_64 (by decide) ?_
    refine z_pZ 5 dX10_add_65 fm_X10_44 (by first | rfl | assumption) rfl rfl (by first | exact Or.inl rfl | exact Or.inr rfl | assumption | (split <;> simp) | omega) ?_
    refine z_aload_n dX10_add_68 rfl ?_
    refine z_gI 4 dX10_add_69 fl_X10_40 (by first | rfl | assumption) rfl rfl ?_
    rw [mset_nej _ _ (by decide), mset_eq]
    refine z_iconst dX10_add_72 (by decide) ?_
    refine z_isub dX10_add_73 (by omega) ?_
    refine z_iret dX10_add_74 rfl ?_
    refine ⟨rfl, _, rfl, fun q => by omega, fun _ => ⟨by omega, ⟨by omega, ?_, ?_⟩, mset_eq _ _ _ _, ?_, ?_⟩⟩
    · rw [mset_nej _ _ (by decide), mset_eq]; omega
    · intro k i hk hi'
      rw [mset_ne _ (by omega), mset_ne _ (by omega)]
      unfold fdU
      by_cases e : i = nw
      · rw [if_pos e]
        subst e
        obtain rfl | rfl | rfl | rfl : k = 0 ∨ k = 1 ∨ k = 2 ∨ k = 3 := by omega
        · show mset _ 26 _ _ 23 _ = l
          rw [mset_ne _ (by decide), mset_ne _ (by decide), mset_ne _ (by decide), mset_eq]
        · show mset _ 26 _ _ 24 _ = c
          rw [mset_ne _ (by decide), mset_ne _ (by decide), mset_eq]
        · show mset _ 26 _ _ 25 _ = lo
          rw [mset_ne _ (by decide), mset_eq]
        · show mset _ 26 _ _ 26 _ = hi
          rw [mset_eq]
      · rw [if_neg e]
        have hh := hrow k i hk (by omega)
        have ne : ((i : Nat) : Int) ≠ (nw : Int) := by omega
        rw [← hh]
        simp only [mset]
        obtain rfl | rfl | rfl | rfl : k = 0 ∨ k = 1 ∨ k = 2 ∨ k = 3 := by omega
        all_goals simp [ne]
    · intro x hx
      rw [mset_ne _ (by omega), mset_ne _ (by omega), mset_ne _ (by omega), mset_ne _ (by omega), mset_ne _ (by omega), mset_ne _ (by omega)]
    · intro j h1 h2
      rw [mset_nej _ _ h2, mset_nej _ _ h1, mset_ne _ (by decide), mset_ne _ (by decide), mset_ne _ (by decide), mset_ne _ (by decide)]
  · refine z_bipush dX10_add_9 (by decide) ?_
    refine z_iret dX10_add_11 rfl ?_
    exact ⟨rfl, _, rfl, fun _ => ⟨rfl, rfl⟩, fun q => by omega⟩
theorem cm_X11_word {l c lo hi : Int} (hf : wdC mem nw wd) : CM X (0, 0) 2 mX11_word G0 [vr 0, vi l, vi c, vi lo, vi hi] mem (pI G0 fun z m => (¬ okWord l c lo hi → z = -2 ∧ m = mem) ∧ (okWord l c lo hi → nw = 12 → z = -4 ∧ m = mem) ∧ (okWord l c lo hi → nw < 12 → z = (nw : Int) ∧ wdC m (nw + 1) (fdU wd nw (v4 l c lo hi)) ∧ m 22 5 = 0 ∧ (∀ x, x < 22 ∨ 26 < x → m x = mem x) ∧ ∀ j, j ≠ 4 → j ≠ 5 → m 22 j = mem 22 j)) := by
  unfold okWord
  refine CM.of (by decide +kernel) 0 (Nat.le_of_ble_eq_true rfl) ?_
  show ZZ X (0, 0) 2 mX11_word G0 0 [vr 0, vi l, vi c, vi lo, vi hi] [] mem _
  refine z_iload_n dX11_word_0 rfl ?_
  refine z_iload_n dX11_word_1 rfl ?_
  refine z_S2i dX11_word_2 ok_X10_isRow lk_X11_159 (Nat.le_of_ble_eq_true rfl) (by decide) (cm_X10_isRow) (fun z1 m1 hm1 => ?_)
  obtain ⟨hz1, rfl⟩ := hm1
  refine z_if_eq 31 dX11_word_5 (by decide) (fun h5 => ?_) (fun h5 => ?_)
  · refine z_bipush dX11_word_31 (by decide) ?_
    refine z_iret dX11_word_33 rfl ?_
    have hno : ¬ (okRow l c ∧ (0 ≤ lo ∧ lo ≤ hi) ∧ hi ≤ 9999) := by
      intro q
      rcases hz1 with ⟨w1, w2⟩ | ⟨w1, w2⟩
      · omega
      · exact w2 q.1
    exact ⟨rfl, _, rfl, fun _ => ⟨rfl, rfl⟩, fun q => absurd q hno, fun q => absurd q hno⟩
  · refine z_iload_n dX11_word_8 rfl ?_
    refine z_iconst dX11_word_9 (by decide) ?_
    refine z_sipush dX11_word_10 (by decide) ?_
    refine z_S3i dX11_word_13 ok_X11_within lk_X11_83 (Nat.le_of_ble_eq_true rfl) (by decide) (cm_X11_within) (fun z2 m2 hm2 => ?_)
    obtain ⟨hz2, rfl⟩ := hm2
    refine z_if_eq 31 dX11_word_16 (by decide) (fun h16 => ?_) (fun h16 => ?_)
    · refine z_bipush dX11_word_31 (by decide) ?_
      refine z_iret dX11_word_33 rfl ?_
      have hno : ¬ (okRow l c ∧ (0 ≤ lo ∧ lo ≤ hi) ∧ hi ≤ 9999) := by
        intro q
        rcases hz1 with ⟨w1, w2⟩ | ⟨w1, w2⟩
        · omega
        · exact w2 q.1
      exact ⟨rfl, _, rfl, fun _ => ⟨rfl, rfl⟩, fun q => absurd q hno, fun q => absurd q hno⟩
    · refine z_iload dX11_word_19 rfl ?_
      refine z_iload_n dX11_word_21 rfl ?_
      refine z_sipush dX11_word_22 (by decide) ?_
      refine z_S3i dX11_word_25 ok_X11_within lk_X11_83 (Nat.le_of_ble_eq_true rfl) (by decide) (cm_X11_within) (fun z3 m3 hm3 => ?_)
      obtain ⟨hz3, rfl⟩ := hm3
      refine z_if_ne 34 dX11_word_28 (by decide) (fun h28 => ?_) (fun h28 => ?_)
      · have hyes : okRow l c ∧ (0 ≤ lo ∧ lo ≤ hi) ∧ hi ≤ 9999 := by
          rcases hz1 with ⟨w1, w2⟩ | ⟨w1, w2⟩
          · exact ⟨w2, by omega⟩
          · omega
        refine z_aload_n dX11_word_34 rfl ?_
        refine z_getR (ty := .int) dX11_word_35 fl_X11_40 (by first | rfl | assumption) rfl rfl ?_
        refine z_iload_n dX11_word_38 rfl ?_
        refine z_iload_n dX11_word_39 rfl ?_
        refine z_iload_n dX11_word_40 rfl ?_
        refine z_iload dX11_word_41 rfl ?_
        refine z_V4i dX11_word_43 ok_X10_add lk_X11_162 (by first | rfl | assumption) rfl rfl (Nat.le_of_ble_eq_true rfl) (by decide) (cm_X10_add hf) (fun z6 m6 hm6 => ?_)
        refine z_iret dX11_word_46 rfl ?_
        exact ⟨rfl, _, rfl, fun q => absurd hyes q, fun _ => hm6.1, fun _ => hm6.2⟩
      · refine z_bipush dX11_word_31 (by decide) ?_
        refine z_iret dX11_word_33 rfl ?_
        have hno : ¬ (okRow l c ∧ (0 ≤ lo ∧ lo ≤ hi) ∧ hi ≤ 9999) := by
          intro q
          rcases hz1 with ⟨w1, w2⟩ | ⟨w1, w2⟩
          · omega
          · exact w2 q.1
        exact ⟨rfl, _, rfl, fun _ => ⟨rfl, rfl⟩, fun q => absurd q hno, fun q => absurd q hno⟩
theorem cm_X12_areLetters {l c : Int} : CM X (0, 0) 1 mX12_areLetters G0 [vi l, vi c] mem (pI G0 fun z m => bT z (okRow l c) ∧ m = mem) := by
  unfold okRow
  refine CM.of (by decide +kernel) 2 (Nat.le_of_ble_eq_true rfl) ?_
  show ZZ X (0, 0) 1 mX12_areLetters G0 0 [vi l, vi c, vd, vd] [] mem _
  have tail : ∀ (p i : Int), 1 ≤ p → p ≤ 1296 → (1 ≤ l → l ≤ 4 → p = rowsOf l) → ZZ X (0, 0) 1 mX12_areLetters G0 25 [vi l, vi c, vi p, vi i] [] mem (pI G0 fun z m => bT z ((1 ≤ l ∧ l ≤ 4) ∧ 0 ≤ c ∧ c ≤ rowsOf l - 1) ∧ m = mem) := by
    intro p i hp1 hp2 hp
    refine z_iload_n dX12_areLetters_25 rfl ?_
    refine z_i2l dX12_areLetters_26 ?_
    refine z_lconst (z := 1) dX12_areLetters_27 rfl (by decide) ?_
    refine z_ldc2 (z := 4) dX12_areLetters_28 kc_X12_218 (by decide) ?_
    refine z_S3i dX12_areLetters_31 ok_X12_in lk_X12_97 (Nat.le_of_ble_eq_true rfl) (by decide) (cm_X12_in) (fun z1 m1 hm1 => ?_)
    obtain ⟨hz1, rfl⟩ := hm1
    refine z_if_eq 54 dX12_areLetters_34 (by decide) (fun h34 => ?_) (fun h34 => ?_)
    · refine z_iconst dX12_areLetters_54 (by decide) ?_
      refine z_zret dX12_areLetters_55 rfl (by first | exact Or.inl rfl | exact Or.inr rfl | assumption | (split <;> simp) | omega) ?_
      first | exact ⟨rfl, _, rfl, Or.inr ⟨rfl, by omega⟩, rfl⟩ | exact ⟨rfl, _, rfl, Or.inl ⟨rfl, by omega⟩, rfl⟩
    · obtain rfl := hp (by omega) (by omega)
      refine z_iload_n dX12_areLetters_37 rfl ?_
      refine z_i2l dX12_areLetters_38 ?_
      refine z_lconst (z := 0) dX12_areLetters_39 rfl (by decide) ?_
      refine z_iload_n dX12_areLetters_40 rfl ?_
      refine z_iconst dX12_areLetters_41 (by decide) ?_
      refine z_isub dX12_areLetters_42 (by omega) ?_
      refine z_i2l dX12_areLetters_43 ?_
      refine z_S3i dX12_areLetters_44 ok_X12_in lk_X12_97 (Nat.le_of_ble_eq_true rfl) (by decide) (cm_X12_in) (fun z2 m2 hm2 => ?_)
      obtain ⟨hz2, rfl⟩ := hm2
      refine z_if_eq 54 dX12_areLetters_47 (by decide) (fun h47 => ?_) (fun h47 => ?_)
      · refine z_iconst dX12_areLetters_54 (by decide) ?_
        refine z_zret dX12_areLetters_55 rfl (by first | exact Or.inl rfl | exact Or.inr rfl | assumption | (split <;> simp) | omega) ?_
        first | exact ⟨rfl, _, rfl, Or.inr ⟨rfl, by omega⟩, rfl⟩ | exact ⟨rfl, _, rfl, Or.inl ⟨rfl, by omega⟩, rfl⟩
      · refine z_iconst dX12_areLetters_50 (by decide) ?_
        refine z_goto 55 dX12_areLetters_51 (by decide) ?_
        refine z_zret dX12_areLetters_55 rfl (by first | exact Or.inl rfl | exact Or.inr rfl | assumption | (split <;> simp) | omega) ?_
        first | exact ⟨rfl, _, rfl, Or.inr ⟨rfl, by omega⟩, rfl⟩ | exact ⟨rfl, _, rfl, Or.inl ⟨rfl, by omega⟩, rfl⟩
  have pw : ∀ k : Nat, k ≤ 4 → (6 : Int) ^ k ≤ 1296 ∧ 1 ≤ (6 : Int) ^ k := by
    intro k hk
    obtain rfl | rfl | rfl | rfl | rfl : k = 0 ∨ k = 1 ∨ k = 2 ∨ k = 3 ∨ k = 4 := by omega
    all_goals decide
  have loop : ∀ (d i : Nat), l ≤ 4 → (i : Int) + (d : Int) = max l 0 → ZZ X (0, 0) 1 mX12_areLetters G0 4 [vi l, vi c, vi ((6 : Int) ^ i), vi (i : Int)] [] mem (pI G0 fun z m => bT z ((1 ≤ l ∧ l ≤ 4) ∧ 0 ≤ c ∧ c ≤ rowsOf l - 1) ∧ m = mem) := by
    intro d
    induction d with
    | zero =>
      intro i h4 hi
      have hpw := pw i (by omega)
      refine z_iload_n dX12_areLetters_4 rfl ?_
      refine z_iload_n dX12_areLetters_5 rfl ?_
      refine z_icmp_ge 25 dX12_areLetters_6 (by decide) (fun h6 => ?_) (fun h6 => ?_)
      · refine tail _ _ hpw.2 hpw.1 (fun h1 h2 => ?_)
        have : l = (i : Int) := by omega
        subst this
        obtain rfl | rfl | rfl | rfl : i = 1 ∨ i = 2 ∨ i = 3 ∨ i = 4 := by omega
        all_goals rfl
      · omega
    | succ d ih =>
      intro i h4 hi
      have hpw := pw i (by omega)
      have ih' := ih (i + 1) h4 (by omega)
      rw [Int.pow_succ] at ih'
      refine z_iload_n dX12_areLetters_4 rfl ?_
      refine z_iload_n dX12_areLetters_5 rfl ?_
      refine z_icmp_ge 25 dX12_areLetters_6 (by decide) (fun h6 => ?_) (fun h6 => ?_)
      · omega
      · refine z_iload_n dX12_areLetters_9 rfl ?_
        refine z_iconst dX12_areLetters_10 (by decide) ?_
        refine z_icmp_ge 25 dX12_areLetters_11 (by decide) (fun h11 => ?_) (fun h11 => ?_)
        · omega
        · refine z_iload_n dX12_areLetters_14 rfl ?_
          refine z_bipush dX12_areLetters_15 (by decide) ?_
          refine z_imul dX12_areLetters_17 (by omega) ?_
          refine z_istore_n dX12_areLetters_18 (by decide) rfl ?_
          dsimp only [List.set]
          refine z_iinc dX12_areLetters_19 rfl (by omega) (by decide) rfl ?_
          dsimp only [List.set]
          refine z_goto 4 dX12_areLetters_22 (by decide) ?_
          exact ih'
  by_cases q : l ≤ 4
  · refine z_iconst dX12_areLetters_0 (by decide) ?_
    refine z_istore_n dX12_areLetters_1 (by decide) rfl ?_
    dsimp only [List.set]
    refine z_iconst dX12_areLetters_2 (by decide) ?_
    refine z_istore_n dX12_areLetters_3 (by decide) rfl ?_
    dsimp only [List.set]
    exact loop (max l 0).toNat 0 q (by omega)
  · refine z_iconst dX12_areLetters_0 (by decide) ?_
    refine z_istore_n dX12_areLetters_1 (by decide) rfl ?_
    dsimp only [List.set]
    refine z_iconst dX12_areLetters_2 (by decide) ?_
    refine z_istore_n dX12_areLetters_3 (by decide) rfl ?_
    dsimp only [List.set]
    refine z_iload_n dX12_areLetters_4 rfl ?_
    refine z_iload_n dX12_areLetters_5 rfl ?_
    refine z_icmp_ge 25 dX12_areLetters_6 (by decide) (fun h6 => ?_) (fun h6 => ?_)
    · omega
    · refine z_iload_n dX12_areLetters_9 rfl ?_
      refine z_iconst dX12_areLetters_10 (by decide) ?_
      refine z_icmp_ge 25 dX12_areLetters_11 (by decide) (fun h11 => ?_) (fun h11 => ?_)
      · exact tail _ _ (by omega) (by omega) (fun h1 h2 => by omega)
      · omega
theorem cm_X12_word {l c lo hi : Int} (hf : wdM mem nw wd) : CM X (0, 0) 2 mX12_word G0 [vr 88, vi l, vi c, vi lo, vi hi] mem (pI G0 fun z m => (¬ okWord l c lo hi → z = -2 ∧ m = mem) ∧ (okWord l c lo hi → nw = 12 → z = -4 ∧ m = mem) ∧ (okWord l c lo hi → nw < 12 → z = (nw : Int) ∧ wdM m (nw + 1) (fdU wd nw (v4 l c lo hi)) ∧ onO 13 95 mem m)) := by
  obtain ⟨hn, hs, hrow⟩ := hf
  unfold okWord
  refine CM.of (by decide +kernel) 0 (Nat.le_of_ble_eq_true rfl) ?_
  show ZZ X (0, 0) 2 mX12_word G0 0 [vr 88, vi l, vi c, vi lo, vi hi] [] mem _
  refine z_iload_n dX12_word_0 rfl ?_
  refine z_iload_n dX12_word_1 rfl ?_
  refine z_S2i dX12_word_2 ok_X12_areLetters lk_X12_220 (Nat.le_of_ble_eq_true rfl) (by decide) (cm_X12_areLetters) (fun z1 m1 hm1 => ?_)
  obtain ⟨hz1, rfl⟩ := hm1
  refine z_if_eq 33 dX12_word_5 (by decide) (fun h5 => ?_) (fun h5 => ?_)
  · refine z_bipush dX12_word_33 (by decide) ?_
    refine z_iret dX12_word_35 rfl ?_
    have hno : ¬ (okRow l c ∧ (0 ≤ lo ∧ lo ≤ hi) ∧ hi ≤ 9999) := by
      intro q
      rcases hz1 with ⟨w1, w2⟩ | ⟨w1, w2⟩
      · omega
      · exact w2 q.1
    exact ⟨rfl, _, rfl, fun _ => ⟨rfl, rfl⟩, fun q => absurd q hno, fun q => absurd q hno⟩
  · refine z_iload_n dX12_word_8 rfl ?_
    refine z_i2l dX12_word_9 ?_
    refine z_lconst (z := 0) dX12_word_10 rfl (by decide) ?_
    refine z_iload dX12_word_11 rfl ?_
    refine z_i2l dX12_word_13 ?_
    refine z_S3i dX12_word_14 ok_X12_in lk_X12_97 (Nat.le_of_ble_eq_true rfl) (by decide) (cm_X12_in) (fun z2 m2 hm2 => ?_)
    obtain ⟨hz2, rfl⟩ := hm2
    refine z_if_eq 33 dX12_word_17 (by decide) (fun h17 => ?_) (fun h17 => ?_)
    · refine z_bipush dX12_word_33 (by decide) ?_
      refine z_iret dX12_word_35 rfl ?_
      have hno : ¬ (okRow l c ∧ (0 ≤ lo ∧ lo ≤ hi) ∧ hi ≤ 9999) := by
        intro q
        rcases hz1 with ⟨w1, w2⟩ | ⟨w1, w2⟩
        · omega
        · exact w2 q.1
      exact ⟨rfl, _, rfl, fun _ => ⟨rfl, rfl⟩, fun q => absurd q hno, fun q => absurd q hno⟩
    · refine z_iload dX12_word_20 rfl ?_
      refine z_i2l dX12_word_22 ?_
      refine z_lconst (z := 0) dX12_word_23 rfl (by decide) ?_
      refine z_ldc2 (z := 9999) dX12_word_24 kc_X12_106 (by decide) ?_
      refine z_S3i dX12_word_27 ok_X12_in lk_X12_97 (Nat.le_of_ble_eq_true rfl) (by decide) (cm_X12_in) (fun z3 m3 hm3 => ?_)
      obtain ⟨hz3, rfl⟩ := hm3
      refine z_if_ne 36 dX12_word_30 (by decide) (fun h30 => ?_) (fun h30 => ?_)
      · have hyes : okRow l c ∧ (0 ≤ lo ∧ lo ≤ hi) ∧ hi ≤ 9999 := by
          rcases hz1 with ⟨w1, w2⟩ | ⟨w1, w2⟩
          · exact ⟨w2, by omega⟩
          · omega
        refine z_aload_n dX12_word_36 rfl ?_
        refine z_gI 13 dX12_word_37 fl_X12_223 (by first | rfl | assumption) rfl rfl ?_
        rw [hs]
        refine z_bipush dX12_word_40 (by decide) ?_
        refine z_icmp_ne 48 dX12_word_42 (by decide) (fun h42 => ?_) (fun h42 => ?_)
        · refine z_aload_n dX12_word_48 rfl ?_
          refine z_getR (ty := .int) dX12_word_49 fl_X12_28 (by first | rfl | assumption) rfl rfl ?_
          refine z_iconst dX12_word_52 (by decide) ?_
          refine z_aload_n dX12_word_53 rfl ?_
          refine z_gI 13 dX12_word_54 fl_X12_223 (by first | rfl | assumption) rfl rfl ?_
          rw [hs]
          refine z_imul dX12_word_57 (by omega) ?_
          refine z_iload_n dX12_word_58 rfl ?_
          refine z_iast dX12_word_59 (by first | rfl | assumption) (by omega) (by omega) ?_
          refine z_aload_n dX12_word_60 rfl ?_
          refine z_getR (ty := .int) dX12_word_61 fl_X12_28 (by first | rfl | assumption) rfl rfl ?_
          refine z_iconst dX12_word_64 (by decide) ?_
          refine z_aload_n dX12_word_65 rfl ?_
          refine z_gI 13 dX12_word_66 fl_X12_223 (by first | rfl | assumption) rfl rfl ?_
          rw [mset_ne _ (by decide), hs]
          refine z_imul dX12_word_69 (by omega) ?_
          refine z_iconst dX12_word_70 (by decide) ?_
          refine z_iadd dX12_word_71 (by omega) ?_
          refine z_iload_n dX12_word_72 rfl ?_
          refine z_iast dX12_word_73 (by first | rfl | assumption) (by omega) (by omega) ?_
          refine z_aload_n dX12_word_74 rfl ?_
          refine z_getR (ty := .int) dX12_word_75 fl_X12_28 (by first | rfl | assumption) rfl rfl ?_
          refine z_iconst dX12_word_78 (by decide) ?_
          refine z_aload_n dX12_word_79 rfl ?_
          refine z_gI 13 dX12_word_80 fl_X12_223 (by first | rfl | assumption) rfl rfl ?_
          rw [mset_ne _ (by decide), mset_ne _ (by decide), hs]
          refine z_imul dX12_word_83 (by omega) ?_
          refine z_iconst dX12_word_84 (by decide) ?_
          refine z_iadd dX12_word_85 (by omega) ?_
          refine z_iload_n dX12_word_86 rfl ?_
          refine z_iast dX12_word_87 (by first | rfl | assumption) (by omega) (by omega) ?_
          refine z_aload_n dX12_word_88 rfl ?_
          refine z_getR (ty := .int) dX12_word_89 fl_X12_28 (by first | rfl | assumption) rfl rfl ?_
          refine z_iconst dX12_word_92 (by decide) ?_
          refine z_aload_n dX12_word_93 rfl ?_
          refine z_gI 13 dX12_word_94 fl_X12_223 (by first | rfl | assumption) rfl rfl ?_
          rw [mset_ne _ (by decide), mset_ne _ (by decide), mset_ne _ (by decide), hs]
          refine z_imul dX12_word_97 (by omega) ?_
          refine z_iconst dX12_word_98 (by decide) ?_
          refine z_iadd dX12_word_99 (by omega) ?_
          refine z_iload dX12_word_100 rfl ?_
          refine z_iast dX12_word_102 (by first | rfl | assumption) (by omega) (by omega) ?_
          refine z_aload_n dX12_word_103 rfl ?_
          refine z_dup dX12_word_104 (by intro z q; cases q) ?_
          refine z_gI 13 dX12_word_105 fl_X12_223 (by first | rfl | assumption) rfl rfl ?_
          rw [mset_ne _ (by decide), mset_ne _ (by decide), mset_ne _ (by decide), mset_ne _ (by decide), hs]
          refine z_iconst dX12_word_108 (by decide) ?_
          refine z_iadd dX12_word_109 (by omega) ?_
          refine z_pI 13 dX12_word_110 fm_X12_223 (by first | rfl | assumption) rfl rfl ?_
          refine z_aload_n dX12_word_113 rfl ?_
          refine z_gI 13 dX12_word_114 fl_X12_223 (by first | rfl | assumption) rfl rfl ?_
          rw [mset_eq]
          refine z_iconst dX12_word_117 (by decide) ?_
          refine z_isub dX12_word_118 (by omega) ?_
          refine z_iret dX12_word_119 rfl ?_
          refine ⟨rfl, _, rfl, fun q => absurd hyes q, fun _ q => by omega, fun _ _ => ⟨by omega, ⟨by omega, ?_, ?_⟩, ?_, ?_⟩⟩
          · rw [mset_eq]; omega
          · intro k i hk hi'
            rw [mset_ne _ (by decide)]
            unfold fdU
            by_cases e : i = nw
            · rw [if_pos e]
              subst e
              obtain rfl | rfl | rfl | rfl : k = 0 ∨ k = 1 ∨ k = 2 ∨ k = 3 := by omega
              · rw [mset_nej _ _ (by omega), mset_nej _ _ (by omega), mset_nej _ _ (by omega), show 4 * (i : Int) + ((0 : Nat) : Int) = 4 * (i : Int) by omega, mset_eq]; rfl
              · rw [mset_nej _ _ (by omega), mset_nej _ _ (by omega)]; exact mset_eq _ _ _ _
              · rw [mset_nej _ _ (by omega)]; exact mset_eq _ _ _ _
              · exact mset_eq _ _ _ _
            · rw [if_neg e, mset_nej _ _ (by omega), mset_nej _ _ (by omega), mset_nej _ _ (by omega), mset_nej _ _ (by omega)]
              exact hrow k i hk (by omega)
          · intro x ha hb
            rw [mset_ne _ ha, mset_ne _ hb, mset_ne _ hb, mset_ne _ hb, mset_ne _ hb]
          · intro j hj
            rw [mset_nej _ _ hj, mset_ne _ (by decide), mset_ne _ (by decide), mset_ne _ (by decide), mset_ne _ (by decide)]
        · refine z_bipush dX12_word_45 (by decide) ?_
          refine z_iret dX12_word_47 rfl ?_
          exact ⟨rfl, _, rfl, fun q => absurd hyes q, fun _ _ => ⟨rfl, rfl⟩, fun _ q => by omega⟩
      · refine z_bipush dX12_word_33 (by decide) ?_
        refine z_iret dX12_word_35 rfl ?_
        have hno : ¬ (okRow l c ∧ (0 ≤ lo ∧ lo ≤ hi) ∧ hi ≤ 9999) := by
          intro q
          rcases hz1 with ⟨w1, w2⟩ | ⟨w1, w2⟩
          · omega
          · exact w2 q.1
        exact ⟨rfl, _, rfl, fun _ => ⟨rfl, rfl⟩, fun q => absurd q hno, fun q => absurd q hno⟩
theorem cm_X10_clear (hf : wdC mem nw wd) : CM X (0, 0) 0 mX10_clear G0 [vr 22] mem (pI G0 fun z m => z = (nw : Int) ∧ wdC m 0 wd ∧ m 22 5 = 0 ∧ (∀ x, x ≠ 22 → m x = mem x) ∧ ∀ j, j ≠ 4 → j ≠ 5 → m 22 j = mem 22 j) := by
  have hs := hf.2.1
  refine CM.of (by decide +kernel) 1 (Nat.le_of_ble_eq_true rfl) ?_
  show ZZ X (0, 0) 0 mX10_clear G0 0 [vr 22, vd] [] mem _
  refine z_aload_n dX10_clear_0 rfl ?_
  refine z_gI 4 dX10_clear_1 fl_X10_40 (by first | rfl | assumption) rfl rfl ?_
  rw [hs]
  refine z_istore_n dX10_clear_4 (by decide) rfl ?_
  dsimp only [List.set]
  refine z_aload_n dX10_clear_5 rfl ?_
  refine z_iconst dX10_clear_6 (by decide) ?_
  refine z_pI 4 dX10_clear_7 fm_X10_40 (by first | rfl | assumption) rfl rfl ?_
  refine z_aload_n dX10_clear_10 rfl ?_
  refine z_iconst dX10_clear_11 (by decide) ?_
  refine z_pZ 5 dX10_clear_12 fm_X10_44 (by first | rfl | assumption) rfl rfl (by first | exact Or.inl rfl | exact Or.inr rfl | assumption | (split <;> simp) | omega) ?_
  refine z_iload_n dX10_clear_15 rfl ?_
  refine z_iret dX10_clear_16 rfl ?_
  exact ⟨rfl, _, rfl, rfl, ⟨by decide, by rw [mset_nej _ _ (by decide), mset_eq]; rfl, fun k i _ h => by omega⟩, mset_eq _ _ _ _, fun x hx => by rw [mset_ne _ hx, mset_ne _ hx], fun j h1 h2 => by rw [mset_nej _ _ h2, mset_nej _ _ h1]⟩
theorem cm_X11_wordless (hf : wdC mem nw wd) : CM X (0, 0) 1 mX11_wordless G0 [vr 0] mem (pI G0 fun z m => z = (nw : Int) ∧ wdC m 0 wd ∧ m 22 5 = 0 ∧ (∀ x, x ≠ 22 → m x = mem x) ∧ ∀ j, j ≠ 4 → j ≠ 5 → m 22 j = mem 22 j) := by
  refine CM.of (by decide +kernel) 0 (Nat.le_of_ble_eq_true rfl) ?_
  show ZZ X (0, 0) 1 mX11_wordless G0 0 [vr 0] [] mem _
  refine z_aload_n dX11_wordless_0 rfl ?_
  refine z_getR (ty := .int) dX11_wordless_1 fl_X11_40 (by first | rfl | assumption) rfl rfl ?_
  refine z_V0i dX11_wordless_4 ok_X10_clear lk_X11_165 (by first | rfl | assumption) rfl rfl (Nat.le_of_ble_eq_true rfl) (by decide) (cm_X10_clear hf) (fun z1 m1 hm1 => ?_)
  refine z_iret dX11_wordless_7 rfl ?_
  exact ⟨rfl, _, rfl, hm1⟩
theorem cm_X12_wordless (hf : wdM mem nw wd) : CM X (0, 0) 0 mX12_wordless G0 [vr 88] mem (pI G0 fun z m => z = (nw : Int) ∧ wdM m 0 wd ∧ (∀ x, x ≠ 88 → m x = mem x) ∧ ∀ j, j ≠ 13 → m 88 j = mem 88 j) := by
  have hs := hf.2.1
  refine CM.of (by decide +kernel) 1 (Nat.le_of_ble_eq_true rfl) ?_
  show ZZ X (0, 0) 0 mX12_wordless G0 0 [vr 88, vd] [] mem _
  refine z_aload_n dX12_wordless_0 rfl ?_
  refine z_gI 13 dX12_wordless_1 fl_X12_223 (by first | rfl | assumption) rfl rfl ?_
  rw [hs]
  refine z_istore_n dX12_wordless_4 (by decide) rfl ?_
  dsimp only [List.set]
  refine z_aload_n dX12_wordless_5 rfl ?_
  refine z_iconst dX12_wordless_6 (by decide) ?_
  refine z_pI 13 dX12_wordless_7 fm_X12_223 (by first | rfl | assumption) rfl rfl ?_
  refine z_iload_n dX12_wordless_10 rfl ?_
  refine z_iret dX12_wordless_11 rfl ?_
  exact ⟨rfl, _, rfl, rfl, ⟨by decide, mset_eq _ _ _ _, fun k i _ h => by omega⟩, fun x hx => mset_ne _ hx _ _, fun j hj => mset_nej _ _ hj _⟩
end WordA
