section ModC
variable {X : Nat × (Int → Int)} {mem : Mem}
theorem cm_X12_against {r s v w : Nat} (hr : r < 6) (hs : s < 6) (hv : regAt mem r v) (hw : regAt mem s w) : CM X (0, 0) 0 mX12_against G0 [vr 88, vi (r : Int), vi (s : Int)] mem (pI G0 fun z m => z = (if v < w then -1 else if v = w then 0 else 1) ∧ m = mem) := by
  obtain ⟨hd, hnv, n, hn, hwd, hz, ht⟩ := hv
  obtain ⟨hd2, hnv2, n2, hn2, hwd2, hz2, ht2⟩ := hw
  have hvn : nv (rowM mem r) n = (v : Int) := by rw [← hnv]; exact (nv_pad hn hz).symm
  have hwn : nv (rowM mem s) n2 = (w : Int) := by rw [← hnv2]; exact (nv_pad hn2 hz2).symm
  have hdn : dig (rowM mem r) n := fun j hj => hd j (by omega)
  have hdn2 : dig (rowM mem s) n2 := fun j hj => hd2 j (by omega)
  have sz1 : n < n2 → v < w := by
    intro q
    by_cases e : v < w
    · exact e
    · have := nv_top hdn2 ht2 (k := n) (by have := nv_lt hdn; omega)
      omega
  have sz2 : n2 < n → w < v := by
    intro q
    by_cases e : w < v
    · exact e
    · have := nv_top hdn ht (k := n2) (by have := nv_lt hdn2; omega)
      omega
  refine CM.of (by decide +kernel) 1 (Nat.le_of_ble_eq_true rfl) ?_
  show ZZ X (0, 0) 0 mX12_against G0 0 [vr 88, vi (r : Int), vi (s : Int), vd] [] mem _
  have loop : ∀ (i : Nat), i ≤ 66 → (∀ j : Nat, i ≤ j → j < 66 → rowM mem r (j : Int) = rowM mem s (j : Int)) →
      ZZ X (0, 0) 0 mX12_against G0 45 [vr 88, vi (r : Int), vi (s : Int), vi ((i : Int) - 1)] [] mem (pI G0 fun z m => z = (if v < w then -1 else if v = w then 0 else 1) ∧ m = mem) := by
    intro i
    induction i with
    | zero =>
      intro hi hsame
      have heq : v = w := by
        have := nv_congr (n := 66) (fun j hj => hsame j (by omega) hj)
        rw [hnv, hnv2] at this
        omega
      refine z_iload_n dX12_against_45 rfl ?_
      refine z_if_lt 111 dX12_against_46 (by decide) (fun h46 => ?_) (fun h46 => ?_)
      · refine z_iconst dX12_against_111 (by decide) ?_
        refine z_iret dX12_against_112 rfl ?_
        exact ⟨rfl, _, rfl, by rw [if_neg (by omega), if_pos heq], rfl⟩
      · omega
    | succ i ih =>
      intro hi hsame
      have e1 : ((i + 1 : Nat) : Int) - 1 = (i : Int) := by omega
      rw [e1]
      refine z_iload_n dX12_against_45 rfl ?_
      refine z_if_lt 111 dX12_against_46 (by decide) (fun h46 => ?_) (fun h46 => ?_)
      · omega
      · refine z_aload_n dX12_against_49 rfl ?_
        refine z_getR (ty := .int) dX12_against_50 fl_X12_7 (by first | rfl | assumption) rfl rfl ?_
        refine z_bipush dX12_against_53 (by decide) ?_
        refine z_iload_n dX12_against_55 rfl ?_
        refine z_imul dX12_against_56 (by omega) ?_
        refine z_iload_n dX12_against_57 rfl ?_
        refine z_iadd dX12_against_58 (by omega) ?_
        refine z_iald dX12_against_59 (by first | rfl | assumption) (by omega) (by omega) ?_
        refine z_aload_n dX12_against_60 rfl ?_
        refine z_getR (ty := .int) dX12_against_61 fl_X12_7 (by first | rfl | assumption) rfl rfl ?_
        refine z_bipush dX12_against_64 (by decide) ?_
        refine z_iload_n dX12_against_66 rfl ?_
        refine z_imul dX12_against_67 (by omega) ?_
        refine z_iload_n dX12_against_68 rfl ?_
        refine z_iadd dX12_against_69 (by omega) ?_
        refine z_iald dX12_against_70 (by first | rfl | assumption) (by omega) (by omega) ?_
        refine z_icmp_eq 105 dX12_against_71 (by decide) (fun h71 => ?_) (fun h71 => ?_)
        · refine z_iinc dX12_against_105 rfl (by omega) (by decide) rfl ?_
          dsimp only [List.set]
          refine z_goto 45 dX12_against_108 (by decide) ?_
          exact ih (by omega) (fun j h1 h2 => by by_cases e : j = i; exact e ▸ h71; exact hsame j (by omega) h2)
        · refine z_aload_n dX12_against_74 rfl ?_
          refine z_getR (ty := .int) dX12_against_75 fl_X12_7 (by first | rfl | assumption) rfl rfl ?_
          refine z_bipush dX12_against_78 (by decide) ?_
          refine z_iload_n dX12_against_80 rfl ?_
          refine z_imul dX12_against_81 (by omega) ?_
          refine z_iload_n dX12_against_82 rfl ?_
          refine z_iadd dX12_against_83 (by omega) ?_
          refine z_iald dX12_against_84 (by first | rfl | assumption) (by omega) (by omega) ?_
          refine z_aload_n dX12_against_85 rfl ?_
          refine z_getR (ty := .int) dX12_against_86 fl_X12_7 (by first | rfl | assumption) rfl rfl ?_
          refine z_bipush dX12_against_89 (by decide) ?_
          refine z_iload_n dX12_against_91 rfl ?_
          refine z_imul dX12_against_92 (by omega) ?_
          refine z_iload_n dX12_against_93 rfl ?_
          refine z_iadd dX12_against_94 (by omega) ?_
          refine z_iald dX12_against_95 (by first | rfl | assumption) (by omega) (by omega) ?_
          refine z_icmp_ge 103 dX12_against_96 (by decide) (fun h96 => ?_) (fun h96 => ?_)
          · have h96' : rowM mem s (i : Int) ≤ rowM mem r (i : Int) := h96
            have h71' : ¬ rowM mem r (i : Int) = rowM mem s (i : Int) := h71
            have := nv_less (show i < 66 by omega) hd2 hd (fun j h1 h2 => (hsame j h1 h2).symm) (show rowM mem s (i : Int) < rowM mem r (i : Int) by omega)
            refine z_iconst dX12_against_103 (by decide) ?_
            refine z_iret dX12_against_104 rfl ?_
            refine ⟨rfl, _, rfl, ?_, rfl⟩
            first | (rw [if_pos (by omega)]; done) | (rw [if_neg (by omega), if_neg (by omega)]; done)
          · have h96' : ¬ rowM mem s (i : Int) ≤ rowM mem r (i : Int) := h96
            have := nv_less (show i < 66 by omega) hd hd2 hsame (show rowM mem r (i : Int) < rowM mem s (i : Int) by omega)
            refine z_iconst dX12_against_99 (by decide) ?_
            refine z_goto 104 dX12_against_100 (by decide) ?_
            refine z_iret dX12_against_104 rfl ?_
            refine ⟨rfl, _, rfl, ?_, rfl⟩
            first | (rw [if_pos (by omega)]; done) | (rw [if_neg (by omega), if_neg (by omega)]; done)
  refine z_aload_n dX12_against_0 rfl ?_
  refine z_getR (ty := .int) dX12_against_1 fl_X12_13 (by first | rfl | assumption) rfl rfl ?_
  refine z_iload_n dX12_against_4 rfl ?_
  refine z_iald dX12_against_5 (by first | rfl | assumption) (by omega) (by omega) ?_
  rw [hwd]
  refine z_aload_n dX12_against_6 rfl ?_
  refine z_getR (ty := .int) dX12_against_7 fl_X12_13 (by first | rfl | assumption) rfl rfl ?_
  refine z_iload_n dX12_against_10 rfl ?_
  refine z_iald dX12_against_11 (by first | rfl | assumption) (by omega) (by omega) ?_
  rw [hwd2]
  refine z_icmp_eq 36 dX12_against_12 (by decide) (fun h12 => ?_) (fun h12 => ?_)
  · refine z_aload_n dX12_against_36 rfl ?_
    refine z_getR (ty := .int) dX12_against_37 fl_X12_13 (by first | rfl | assumption) rfl rfl ?_
    refine z_iload_n dX12_against_40 rfl ?_
    refine z_iald dX12_against_41 (by first | rfl | assumption) (by omega) (by omega) ?_
    rw [hwd]
    refine z_iconst dX12_against_42 (by decide) ?_
    refine z_isub dX12_against_43 (by omega) ?_
    refine z_istore_n dX12_against_44 (by decide) rfl ?_
    dsimp only [List.set]
    exact loop n hn (fun j a b => by rw [hz j a b, hz2 j (by omega) b])
  · refine z_aload_n dX12_against_15 rfl ?_
    refine z_getR (ty := .int) dX12_against_16 fl_X12_13 (by first | rfl | assumption) rfl rfl ?_
    refine z_iload_n dX12_against_19 rfl ?_
    refine z_iald dX12_against_20 (by first | rfl | assumption) (by omega) (by omega) ?_
    rw [hwd]
    refine z_aload_n dX12_against_21 rfl ?_
    refine z_getR (ty := .int) dX12_against_22 fl_X12_13 (by first | rfl | assumption) rfl rfl ?_
    refine z_iload_n dX12_against_25 rfl ?_
    refine z_iald dX12_against_26 (by first | rfl | assumption) (by omega) (by omega) ?_
    rw [hwd2]
    refine z_icmp_ge 34 dX12_against_27 (by decide) (fun h27 => ?_) (fun h27 => ?_)
    · refine z_iconst dX12_against_34 (by decide) ?_
      refine z_iret dX12_against_35 rfl ?_
      refine ⟨rfl, _, rfl, ?_, rfl⟩
      first | (have := sz1 (by omega); rw [if_pos (by omega)]; done) | (have := sz2 (by omega); rw [if_neg (by omega), if_neg (by omega)]; done)
    · refine z_iconst dX12_against_30 (by decide) ?_
      refine z_goto 35 dX12_against_31 (by decide) ?_
      refine z_iret dX12_against_35 rfl ?_
      refine ⟨rfl, _, rfl, ?_, rfl⟩
      first | (have := sz1 (by omega); rw [if_pos (by omega)]; done) | (have := sz2 (by omega); rw [if_neg (by omega), if_neg (by omega)]; done)
theorem reg_dig {r v : Nat} (hv : regAt mem r v) {j : Nat} (hj : j < 66) : rowM mem r (j : Int) = ((v / 1073741824 ^ j % 1073741824 : Nat) : Int) := by
  have := nv_dig hv.1 hv.2.1 j
  unfold padR at this
  rw [if_pos (by omega)] at this
  exact this
theorem cm_X12_isEven {r v : Nat} (hr : r < 6) (hv : regAt mem r v) : CM X (0, 0) 0 mX12_isEven G0 [vr 88, vi (r : Int)] mem (pI G0 fun z m => z = (if v % 2 = 0 then 1 else 0) ∧ m = mem) := by
  have h0 := reg_dig hv (j := 0) (by decide)
  rw [Nat.pow_zero, Nat.div_one] at h0
  have h00 : mem 89 (66 * (r : Int)) = ((v % 1073741824 : Nat) : Int) := by
    have : mem 89 (66 * (r : Int) + ((0 : Nat) : Int)) = ((v % 1073741824 : Nat) : Int) := h0
    simpa using this
  refine CM.of (by decide +kernel) 0 (Nat.le_of_ble_eq_true rfl) ?_
  show ZZ X (0, 0) 0 mX12_isEven G0 0 [vr 88, vi (r : Int)] [] mem _
  refine z_aload_n dX12_isEven_0 rfl ?_
  refine z_getR (ty := .int) dX12_isEven_1 fl_X12_7 (by first | rfl | assumption) rfl rfl ?_
  refine z_bipush dX12_isEven_4 (by decide) ?_
  refine z_iload_n dX12_isEven_6 rfl ?_
  refine z_imul dX12_isEven_7 (by omega) ?_
  refine z_iald dX12_isEven_8 (by first | rfl | assumption) (by omega) (by omega) ?_
  rw [h00]
  refine z_iconst dX12_isEven_9 (by decide) ?_
  refine z_iand dX12_isEven_10 ?_
  rw [iand1]
  refine z_if_ne 18 dX12_isEven_11 (by decide) (fun h11 => ?_) (fun h11 => ?_)
  · refine z_iconst dX12_isEven_18 (by decide) ?_
    refine z_zret dX12_isEven_19 rfl (by first | exact Or.inl rfl | exact Or.inr rfl | assumption | (split <;> simp) | omega) ?_
    refine ⟨rfl, _, rfl, ?_, rfl⟩
    first | (rw [if_pos (by omega)]; done) | (rw [if_neg (by omega)]; done)
  · refine z_iconst dX12_isEven_14 (by decide) ?_
    refine z_goto 19 dX12_isEven_15 (by decide) ?_
    refine z_zret dX12_isEven_19 rfl (by first | exact Or.inl rfl | exact Or.inr rfl | assumption | (split <;> simp) | omega) ?_
    refine ⟨rfl, _, rfl, ?_, rfl⟩
    first | (rw [if_pos (by omega)]; done) | (rw [if_neg (by omega)]; done)
theorem ishr1 {x : Int} (hx : i32 x) : ishrV x 1 = x / 2 := by
  unfold ishrV
  rw [show (Int32.ofInt 1) &&& 31 = (1 : Int32) by decide, ← Int32.toInt_toBitVec, Int32.toBitVec_shiftRight, show (BitVec.smod (Int32.toBitVec 1) 32) = 1#32 by decide, BitVec.toInt_sshiftRight', Int32.toInt_toBitVec, ti32 hx, Int.shiftRight_eq_div_pow]
  rfl
theorem ior29 {a b : Int} (h0 : 0 ≤ a) (h1 : a < 536870912) (hb : b = 0 ∨ b = 1) : iorV a (ishlV b 29) = a + b * 536870912 := by
  have hs : ishlV b 29 = b * 536870912 := by rcases hb with rfl | rfl <;> decide
  rw [hs]
  unfold iorV
  have h2 : (Int32.ofInt a ||| Int32.ofInt (b * 536870912)).toBitVec.toNat = (a + b * 536870912).toNat := by
    rw [Int32.toBitVec_or, BitVec.toNat_or, tn32, tn32, Int.emod_eq_of_lt (by omega) (by omega), Int.emod_eq_of_lt (by omega) (by omega)]
    rw [Nat.or_comm, show (b * 536870912).toNat = 2 ^ 29 * b.toNat by omega, show (a + b * 536870912).toNat = 2 ^ 29 * b.toNat + a.toNat by omega]
    exact (Nat.two_pow_add_eq_or_of_lt (by omega) _).symm
  rw [ti_of32 _ h2 (by omega)]
  omega
theorem cm_X12_halves {r v : Nat} (hr : r < 6) (hv : regAt mem r v) : CM X (0, 0) 1 mX12_halves G0 [vr 88, vi (r : Int)] mem (pV G0 fun m => regAt m r (v / 2) ∧ onR r mem m) := by
  have hdg0 := fun (j : Nat) (hj : j < 66) => reg_dig hv hj
  obtain ⟨hd, hnv, n, hn, hwd, hz, ht⟩ := hv
  have hvlt : v < 1073741824 ^ 66 := by
    have h1 := nv_lt hd
    have : (v : Int) < ((1073741824 ^ 66 : Nat) : Int) := by rw [Int.natCast_pow, ← hnv]; exact h1
    exact Int.ofNat_lt.mp this
  have hnew : ∀ i : Nat, v / 2 / 1073741824 ^ i % 1073741824 = (v / 1073741824 ^ i % 1073741824) / 2 + (v / 1073741824 ^ (i + 1) % 1073741824) % 2 * 536870912 := by
    intro i
    have h := pair_shift (v / 1073741824 ^ i) 1 (by decide)
    rw [Nat.pow_one] at h
    rw [Nat.div_div_eq_div_mul, Nat.mul_comm, ← Nat.div_div_eq_div_mul, ← h, Nat.pow_succ, Nat.div_div_eq_div_mul v]
    have a1 := Nat.mod_lt (v / 1073741824 ^ i) (show 0 < 1073741824 by decide)
    have a2 := Nat.mod_lt (v / (1073741824 ^ i * 1073741824)) (show 0 < 1073741824 by decide)
    generalize v / 1073741824 ^ i % 1073741824 = d0 at a1 ⊢
    generalize v / (1073741824 ^ i * 1073741824) % 1073741824 = d1 at a2 ⊢
    omega
  refine CM.of (by decide +kernel) 2 (Nat.le_of_ble_eq_true rfl) ?_
  show ZZ X (0, 0) 1 mX12_halves G0 0 [vr 88, vi (r : Int), vd, vd] [] mem _
  have loop : ∀ (k i : Nat) (m : Mem) (w : VV), (∀ z, w ≠ vl z) → k + i = n → onR r mem m → m 90 (r : Int) = (n : Int) → (∀ j : Nat, j < i → rowM m r (j : Int) = ((v / 2 / 1073741824 ^ j % 1073741824 : Nat) : Int)) → (∀ j : Nat, i ≤ j → j < 66 → rowM m r (j : Int) = rowM mem r (j : Int)) →
      ZZ X (0, 0) 1 mX12_halves G0 2 [vr 88, vi (r : Int), vi (i : Int), w] [] m (pV G0 fun m => regAt m r (v / 2) ∧ onR r mem m) := by
    intro k
    induction k with
    | zero =>
      intro i m w hw hk hon hsz hlow hsame
      have hi : i = n := by omega
      subst hi
      have hzm : ∀ j : Nat, i ≤ j → j < 66 → rowM m r (j : Int) = 0 := fun j a b => by rw [hsame j a b]; exact hz j a b
      have hall : ∀ j : Nat, j < 66 → rowM m r (j : Int) = ((v / 2 / 1073741824 ^ j % 1073741824 : Nat) : Int) := by
        intro j hj
        by_cases e : j < i
        · exact hlow j e
        · rw [hzm j (by omega) hj, hnew j]
          have e1 := hz j (by omega) hj
          rw [hdg0 j hj] at e1
          have e2 : v / 1073741824 ^ (j + 1) % 1073741824 = 0 := by
            by_cases q : j + 1 < 66
            · have e3 := hz (j + 1) (by omega) q
              rw [hdg0 (j + 1) q] at e3
              omega
            · have : j + 1 = 66 := by omega
              rw [this, Nat.div_eq_of_lt hvlt]
          rw [e2]
          omega
      refine z_iload_n dX12_halves_2 rfl ?_
      refine z_aload_n dX12_halves_3 rfl ?_
      refine z_getR (ty := .int) dX12_halves_4 fl_X12_13 (by first | rfl | assumption) rfl rfl ?_
      refine z_iload_n dX12_halves_7 rfl ?_
      refine z_iald dX12_halves_8 (by first | rfl | assumption) (by omega) (by omega) ?_
      rw [hsz]
      refine z_icmp_ge 79 dX12_halves_9 (by decide) (fun h9 => ?_) (fun h9 => ?_)
      · refine z_aload_n dX12_halves_79 rfl ?_
        refine z_iload_n dX12_halves_80 rfl ?_
        refine z_V1v dX12_halves_81 ok_X12_trims lk_X12_68 (by first | rfl | assumption) rfl rfl (Nat.le_of_ble_eq_true rfl) (by decide) (cm_X12_trims hr hsz hn) (fun m2 hm2 => ?_)
        refine z_vret dX12_halves_84 rfl ?_
        obtain ⟨q1, q2⟩ := trims_reg (v := v / 2) hr hn (fun j hj => by rw [hall j hj]; omega) (by rw [nv_of_dig hall, Nat.mod_eq_of_lt (by omega)]) hzm hm2
        exact ⟨rfl, rfl, q1, hon.tr q2⟩
      · omega
    | succ k ih =>
      intro i m w hw hk hon hsz hlow hsame
      have hi0 := hdg0 i (by omega)
      refine z_kill 3 ?_
      dsimp only [List.set]
      have fin : ∀ b : Int, b = ((v / 1073741824 ^ (i + 1) % 1073741824 % 2 : Nat) : Int) → ZZ X (0, 0) 1 mX12_halves G0 43 [vr 88, vi (r : Int), vi (i : Int), vd] [vi b] m (pV G0 fun m => regAt m r (v / 2) ∧ onR r mem m) := by
        intro b hb
        refine z_istore_n dX12_halves_43 (by decide) rfl ?_
        dsimp only [List.set]
        refine z_aload_n dX12_halves_44 rfl ?_
        refine z_getR (ty := .int) dX12_halves_45 fl_X12_7 (by first | rfl | assumption) rfl rfl ?_
        refine z_bipush dX12_halves_48 (by decide) ?_
        refine z_iload_n dX12_halves_50 rfl ?_
        refine z_imul dX12_halves_51 (by omega) ?_
        refine z_iload_n dX12_halves_52 rfl ?_
        refine z_iadd dX12_halves_53 (by omega) ?_
        refine z_aload_n dX12_halves_54 rfl ?_
        refine z_getR (ty := .int) dX12_halves_55 fl_X12_7 (by first | rfl | assumption) rfl rfl ?_
        refine z_bipush dX12_halves_58 (by decide) ?_
        refine z_iload_n dX12_halves_60 rfl ?_
        refine z_imul dX12_halves_61 (by omega) ?_
        refine z_iload_n dX12_halves_62 rfl ?_
        refine z_iadd dX12_halves_63 (by omega) ?_
        refine z_iald dX12_halves_64 (by first | rfl | assumption) (by omega) (by omega) ?_
        rw [show m 89 (66 * (r : Int) + (i : Int)) = ((v / 1073741824 ^ i % 1073741824 : Nat) : Int) from (hsame i (Nat.le_refl i) (by omega)).trans hi0]
        refine z_iconst dX12_halves_65 (by decide) ?_
        refine z_ishr dX12_halves_66 ?_
        rw [ishr1 (by omega)]
        refine z_iload_n dX12_halves_67 rfl ?_
        refine z_bipush dX12_halves_68 (by decide) ?_
        refine z_ishl dX12_halves_70 ?_
        refine z_ior dX12_halves_71 ?_
        rw [ior29 (by omega) (by omega) (by omega)]
        refine z_iast dX12_halves_72 (by first | rfl | assumption) (by omega) (by omega) ?_
        refine z_iinc dX12_halves_73 rfl (by omega) (by decide) rfl ?_
        dsimp only [List.set]
        refine z_goto 2 dX12_halves_76 (by decide) ?_
        refine ih (i + 1) _ _ (by intro z q; cases q) (by omega) (hon.tr (onR_l (by omega) (by omega))) (by rw [wideM]; exact hsz) (fun j hj => ?_) (fun j a c => ?_)
        · rw [rowM_set]
          by_cases e : j = i
          · subst e
            rw [updF_eq, hnew j, hb]
            omega
          · rw [updF_ne _ _ (by omega)]; exact hlow j (by omega)
        · rw [rowM_set, updF_ne _ _ (by omega)]; exact hsame j (by omega) c
      refine z_iload_n dX12_halves_2 rfl ?_
      refine z_aload_n dX12_halves_3 rfl ?_
      refine z_getR (ty := .int) dX12_halves_4 fl_X12_13 (by first | rfl | assumption) rfl rfl ?_
      refine z_iload_n dX12_halves_7 rfl ?_
      refine z_iald dX12_halves_8 (by first | rfl | assumption) (by omega) (by omega) ?_
      rw [hsz]
      refine z_icmp_ge 79 dX12_halves_9 (by decide) (fun h9 => ?_) (fun h9 => ?_)
      · omega
      · refine z_iload_n dX12_halves_12 rfl ?_
        refine z_iconst dX12_halves_13 (by decide) ?_
        refine z_iadd dX12_halves_14 (by omega) ?_
        refine z_aload_n dX12_halves_15 rfl ?_
        refine z_getR (ty := .int) dX12_halves_16 fl_X12_13 (by first | rfl | assumption) rfl rfl ?_
        refine z_iload_n dX12_halves_19 rfl ?_
        refine z_iald dX12_halves_20 (by first | rfl | assumption) (by omega) (by omega) ?_
        rw [hsz]
        refine z_icmp_ge 42 dX12_halves_21 (by decide) (fun h21 => ?_) (fun h21 => ?_)
        · have hb0 : v / 1073741824 ^ (i + 1) % 1073741824 = 0 := by
            by_cases q : i + 1 < 66
            · have e3 := hz (i + 1) (by omega) q
              rw [hdg0 (i + 1) q] at e3
              omega
            · have : i + 1 = 66 := by omega
              rw [this, Nat.div_eq_of_lt hvlt]
          refine z_iconst dX12_halves_42 (by decide) ?_
          first | exact fin _ (by rw [Int.natCast_emod]; rfl) | exact fin 0 (by rw [hb0]; rfl)
        · refine z_aload_n dX12_halves_24 rfl ?_
          refine z_getR (ty := .int) dX12_halves_25 fl_X12_7 (by first | rfl | assumption) rfl rfl ?_
          refine z_bipush dX12_halves_28 (by decide) ?_
          refine z_iload_n dX12_halves_30 rfl ?_
          refine z_imul dX12_halves_31 (by omega) ?_
          refine z_iload_n dX12_halves_32 rfl ?_
          refine z_iadd dX12_halves_33 (by omega) ?_
          refine z_iconst dX12_halves_34 (by decide) ?_
          refine z_iadd dX12_halves_35 (by omega) ?_
          refine z_iald dX12_halves_36 (by first | rfl | assumption) (by omega) (by omega) ?_
          rw [show m 89 (66 * (r : Int) + (i : Int) + 1) = ((v / 1073741824 ^ (i + 1) % 1073741824 : Nat) : Int) by rw [← hdg0 (i + 1) (by omega), ← hsame (i + 1) (by omega) (by omega)]; unfold rowM; congr 1]
          refine z_iconst dX12_halves_37 (by decide) ?_
          refine z_iand dX12_halves_38 ?_
          rw [iand1]
          refine z_goto 43 dX12_halves_39 (by decide) ?_
          first | exact fin _ (by rw [Int.natCast_emod]; rfl) | exact fin 0 (by rw [hb0]; rfl)
  refine z_iconst dX12_halves_0 (by decide) ?_
  refine z_istore_n dX12_halves_1 (by decide) rfl ?_
  dsimp only [List.set]
  exact loop n 0 mem _ (by intro z q; cases q) (by omega) (onR.rf _ _) hwd (fun j hj => by omega) (fun j _ _ => rfl)
end ModC
