/-! ===== moulds: both sides ===== -/
abbrev mdP (fd : Nat → Nat → Int) (mk : Int) (i : Nat) : Prop := (fd 0 i = mk ∧ fd 5 i = 0) ∧ ¬ fd 3 i = -1
def mlC (fd : Nat → Nat → Int) (mk : Int) : Nat → Nat
  | 0 => 0
  | i + 1 => if mdP fd mk i then mlC fd mk i + 1 else mlC fd mk i
def mlM (fd : Nat → Nat → Int) (mk : Int) : Nat → Nat
  | 0 => 0
  | i + 1 => if mdP fd mk i then mlM fd mk i ||| 2 ^ (fd 3 i).toNat else mlM fd mk i
theorem mlC_le (fd : Nat → Nat → Int) (mk : Int) (n : Nat) : mlC fd mk n ≤ n := by
  induction n with
  | zero => exact Nat.le_refl 0
  | succ n ih =>
    show (if mdP fd mk n then mlC fd mk n + 1 else mlC fd mk n) ≤ n + 1
    split <;> omega
theorem mlM_lt {nf : Nat} {fd : Nat → Nat → Int} {mk : Int} (hr : finR nf fd) : ∀ n : Nat, n ≤ nf → mlM fd mk n < 2 ^ 20
  | 0, _ => Nat.two_pow_pos 20
  | n + 1, h => by
    have ih := mlM_lt (mk := mk) hr n (by omega)
    have b := hr n (by omega)
    show (if mdP fd mk n then mlM fd mk n ||| 2 ^ (fd 3 n).toNat else mlM fd mk n) < 2 ^ 20
    split
    · exact Nat.or_lt_two_pow ih (Nat.pow_lt_pow_right (by decide) (by omega))
    · exact ih
theorem bcN_le {n : Nat} (hn : n < 2 ^ 20) : bcN n ≤ 24 := by
  have p0 := pop8_le ⟨n % 256, by omega⟩
  have p1 := pop8_le ⟨n / 256 % 256, by omega⟩
  have p2 := pop8_le ⟨n / 65536, by omega⟩
  dsimp only at p0 p1 p2
  unfold bcN
  omega
theorem bcN0 : bcN 0 = 0 := by decide +kernel
section Mould
variable {X : Nat × (Int → Int)} {mem : Mem} {nf : Nat} {fd : Nat → Nat → Int}
theorem cm_X3_withMould {mk : Int} (hf : finC mem nf fd) : CM X (0, 0) 1 mX3_withMould G0 [vr 1, vi mk] mem (pI G0 fun z m => z = (mlC fd mk nf : Int) ∧ m = mem) := by
  have hs := hf.2.1
  have hn := hf.1
  refine CM.of (by decide +kernel) 2 (Nat.le_of_ble_eq_true rfl) ?_
  show ZZ X (0, 0) 1 mX3_withMould G0 0 [vr 1, vi mk, vd, vd] [] mem _
  have loop : ∀ (d i : Nat), i + d = nf → ZZ X (0, 0) 1 mX3_withMould G0 4 [vr 1, vi mk, vi (mlC fd mk i : Int), vi (i : Int)] [] mem (pI G0 fun z m => z = (mlC fd mk nf : Int) ∧ m = mem) := by
    intro d
    induction d with
    | zero =>
      intro i hi
      have : i = nf := by omega
      subst this
      refine z_iload_n dX3_withMould_4 rfl ?_
      refine z_aload_n dX3_withMould_5 rfl ?_
      refine z_gI 6 dX3_withMould_6 fl_X3_31 (by first | rfl | assumption) rfl rfl ?_
      rw [hs]
      refine z_icmp_ge 40 dX3_withMould_9 (by decide) (fun h9 => ?_) (fun h9 => ?_)
      · refine z_iload_n dX3_withMould_40 rfl ?_
        refine z_iret dX3_withMould_41 rfl ?_
        exact ⟨rfl, _, rfl, rfl, rfl⟩
      · omega
    | succ d ih =>
      intro i hi
      have r3 : mem 5 (i : Int) = fd 3 i := hf.2.2.1 3 i (by decide) (by omega)
      have bd := mlC_le fd mk i
      have ih' := ih (i + 1) (by omega)
      have e1 : mlC fd mk (i + 1) = (if mdP fd mk i then mlC fd mk i + 1 else mlC fd mk i) := rfl
      refine z_iload_n dX3_withMould_4 rfl ?_
      refine z_aload_n dX3_withMould_5 rfl ?_
      refine z_gI 6 dX3_withMould_6 fl_X3_31 (by first | rfl | assumption) rfl rfl ?_
      rw [hs]
      refine z_icmp_ge 40 dX3_withMould_9 (by decide) (fun h9 => ?_) (fun h9 => ?_)
      · omega
      · refine z_aload_n dX3_withMould_12 rfl ?_
        refine z_iload_n dX3_withMould_13 rfl ?_
        refine z_iload_n dX3_withMould_14 rfl ?_
        refine z_V2i dX3_withMould_15 ok_X3_countsFor lk_X3_40 (by first | rfl | assumption) rfl rfl (Nat.le_of_ble_eq_true rfl) (by decide) (cm_X3_countsFor hf (show i < nf by omega)) (fun z1 m1 hm1 => ?_)
        obtain ⟨hz1, rfl⟩ := hm1
        refine z_if_eq 34 dX3_withMould_18 (by decide) (fun h18 => ?_) (fun h18 => ?_)
        · refine z_iinc dX3_withMould_34 rfl (by omega) (by decide) rfl ?_
          dsimp only [List.set]
          refine z_goto 4 dX3_withMould_37 (by decide) ?_
          first | (rw [e1, if_pos (by omega)] at ih'; exact ih') | (rw [e1, if_neg (by omega)] at ih'; exact ih')
        · refine z_aload_n dX3_withMould_21 rfl ?_
          refine z_getR (ty := .int) dX3_withMould_22 fl_X3_21 (by first | rfl | assumption) rfl rfl ?_
          refine z_iload_n dX3_withMould_25 rfl ?_
          refine z_iald dX3_withMould_26 (by first | rfl | assumption) (by omega) (by omega) ?_
          rw [r3]
          refine z_iconst dX3_withMould_27 (by decide) ?_
          refine z_icmp_eq 34 dX3_withMould_28 (by decide) (fun h28 => ?_) (fun h28 => ?_)
          · refine z_iinc dX3_withMould_34 rfl (by omega) (by decide) rfl ?_
            dsimp only [List.set]
            refine z_goto 4 dX3_withMould_37 (by decide) ?_
            first | (rw [e1, if_pos (by omega)] at ih'; exact ih') | (rw [e1, if_neg (by omega)] at ih'; exact ih')
          · refine z_iinc dX3_withMould_31 rfl (by omega) (by decide) rfl ?_
            dsimp only [List.set]
            refine z_iinc dX3_withMould_34 rfl (by omega) (by decide) rfl ?_
            dsimp only [List.set]
            refine z_goto 4 dX3_withMould_37 (by decide) ?_
            first | (rw [e1, if_pos (by omega)] at ih'; exact ih') | (rw [e1, if_neg (by omega)] at ih'; exact ih')
  refine z_iconst dX3_withMould_0 (by decide) ?_
  refine z_istore_n dX3_withMould_1 (by decide) rfl ?_
  dsimp only [List.set]
  refine z_iconst dX3_withMould_2 (by decide) ?_
  refine z_istore_n dX3_withMould_3 (by decide) rfl ?_
  dsimp only [List.set]
  exact loop nf 0 (by omega)
theorem cm_X3_unlikeMoulds {mk : Int} (hf : finC mem nf fd) (hr : finR nf fd) : CM X (0, 0) 1 mX3_unlikeMoulds G0 [vr 1, vi mk] mem (pI G0 fun z m => z = (bcN (mlM fd mk nf) : Int) ∧ m = mem) := by
  have hs := hf.2.1
  have hn := hf.1
  refine CM.of (by decide +kernel) 2 (Nat.le_of_ble_eq_true rfl) ?_
  show ZZ X (0, 0) 1 mX3_unlikeMoulds G0 0 [vr 1, vi mk, vd, vd] [] mem _
  have loop : ∀ (d i : Nat), i + d = nf → ZZ X (0, 0) 1 mX3_unlikeMoulds G0 4 [vr 1, vi mk, vi (mlM fd mk i : Int), vi (i : Int)] [] mem (pI G0 fun z m => z = (bcN (mlM fd mk nf) : Int) ∧ m = mem) := by
    intro d
    induction d with
    | zero =>
      intro i hi
      have : i = nf := by omega
      subst this
      refine z_iload_n dX3_unlikeMoulds_4 rfl ?_
      refine z_aload_n dX3_unlikeMoulds_5 rfl ?_
      refine z_gI 6 dX3_unlikeMoulds_6 fl_X3_31 (by first | rfl | assumption) rfl rfl ?_
      rw [hs]
      refine z_icmp_ge 48 dX3_unlikeMoulds_9 (by decide) (fun h9 => ?_) (fun h9 => ?_)
      · refine z_iload_n dX3_unlikeMoulds_48 rfl ?_
        refine z_S1i dX3_unlikeMoulds_49 ok_J6_bitCount_0f7a4 lk_X3_48 (Nat.le_of_ble_eq_true rfl) (by decide) (cm_J6_bitCount) (fun z1 m1 hm1 => ?_)
        refine z_iret dX3_unlikeMoulds_52 rfl ?_
        exact ⟨rfl, _, rfl, hm1.1.trans (bc_eq (mlM_lt hr i (Nat.le_refl i))), hm1.2⟩
      · omega
    | succ d ih =>
      intro i hi
      have r3 : mem 5 (i : Int) = fd 3 i := hf.2.2.1 3 i (by decide) (by omega)
      have hlt := mlM_lt (mk := mk) hr i (by omega)
      have b := hr i (by omega)
      have ih' := ih (i + 1) (by omega)
      have e1 : mlM fd mk (i + 1) = (if mdP fd mk i then mlM fd mk i ||| 2 ^ (fd 3 i).toNat else mlM fd mk i) := rfl
      refine z_iload_n dX3_unlikeMoulds_4 rfl ?_
      refine z_aload_n dX3_unlikeMoulds_5 rfl ?_
      refine z_gI 6 dX3_unlikeMoulds_6 fl_X3_31 (by first | rfl | assumption) rfl rfl ?_
      rw [hs]
      refine z_icmp_ge 48 dX3_unlikeMoulds_9 (by decide) (fun h9 => ?_) (fun h9 => ?_)
      · omega
      · refine z_aload_n dX3_unlikeMoulds_12 rfl ?_
        refine z_iload_n dX3_unlikeMoulds_13 rfl ?_
        refine z_iload_n dX3_unlikeMoulds_14 rfl ?_
        refine z_V2i dX3_unlikeMoulds_15 ok_X3_countsFor lk_X3_40 (by first | rfl | assumption) rfl rfl (Nat.le_of_ble_eq_true rfl) (by decide) (cm_X3_countsFor hf (show i < nf by omega)) (fun z1 m1 hm1 => ?_)
        obtain ⟨hz1, rfl⟩ := hm1
        refine z_if_eq 42 dX3_unlikeMoulds_18 (by decide) (fun h18 => ?_) (fun h18 => ?_)
        · refine z_iinc dX3_unlikeMoulds_42 rfl (by omega) (by decide) rfl ?_
          dsimp only [List.set]
          refine z_goto 4 dX3_unlikeMoulds_45 (by decide) ?_
          first | (rw [e1, if_pos (by omega)] at ih'; exact ih') | (rw [e1, if_neg (by omega)] at ih'; exact ih')
        · refine z_aload_n dX3_unlikeMoulds_21 rfl ?_
          refine z_getR (ty := .int) dX3_unlikeMoulds_22 fl_X3_21 (by first | rfl | assumption) rfl rfl ?_
          refine z_iload_n dX3_unlikeMoulds_25 rfl ?_
          refine z_iald dX3_unlikeMoulds_26 (by first | rfl | assumption) (by omega) (by omega) ?_
          rw [r3]
          refine z_iconst dX3_unlikeMoulds_27 (by decide) ?_
          refine z_icmp_eq 42 dX3_unlikeMoulds_28 (by decide) (fun h28 => ?_) (fun h28 => ?_)
          · refine z_iinc dX3_unlikeMoulds_42 rfl (by omega) (by decide) rfl ?_
            dsimp only [List.set]
            refine z_goto 4 dX3_unlikeMoulds_45 (by decide) ?_
            first | (rw [e1, if_pos (by omega)] at ih'; exact ih') | (rw [e1, if_neg (by omega)] at ih'; exact ih')
          · have hpw : 2 ^ (fd 3 i).toNat < 2 ^ 20 := Nat.pow_lt_pow_right (by decide) (by omega)
            refine z_iload_n dX3_unlikeMoulds_31 rfl ?_
            refine z_iconst dX3_unlikeMoulds_32 (by decide) ?_
            refine z_aload_n dX3_unlikeMoulds_33 rfl ?_
            refine z_getR (ty := .int) dX3_unlikeMoulds_34 fl_X3_21 (by first | rfl | assumption) rfl rfl ?_
            refine z_iload_n dX3_unlikeMoulds_37 rfl ?_
            refine z_iald dX3_unlikeMoulds_38 (by first | rfl | assumption) (by omega) (by omega) ?_
            rw [r3, show fd 3 i = (((fd 3 i).toNat : Nat) : Int) by omega]
            refine z_ishl dX3_unlikeMoulds_39 ?_
            rw [shl1' (by omega)]
            refine z_ior dX3_unlikeMoulds_40 ?_
            rw [ior_nat (by omega) (by omega)]
            refine z_istore_n dX3_unlikeMoulds_41 (by decide) rfl ?_
            dsimp only [List.set]
            refine z_iinc dX3_unlikeMoulds_42 rfl (by omega) (by decide) rfl ?_
            dsimp only [List.set]
            refine z_goto 4 dX3_unlikeMoulds_45 (by decide) ?_
            first | (rw [e1, if_pos (by omega)] at ih'; exact ih') | (rw [e1, if_neg (by omega)] at ih'; exact ih')
  refine z_iconst dX3_unlikeMoulds_0 (by decide) ?_
  refine z_istore_n dX3_unlikeMoulds_1 (by decide) rfl ?_
  dsimp only [List.set]
  refine z_iconst dX3_unlikeMoulds_2 (by decide) ?_
  refine z_istore_n dX3_unlikeMoulds_3 (by decide) rfl ?_
  dsimp only [List.set]
  exact loop nf 0 (by omega)
def mdA (nf : Nat) (fd : Nat → Nat → Int) (mk wh : Int) : Int := if (0 ≤ mk ∧ mk ≤ 5) ∧ 0 ≤ wh ∧ wh ≤ 1 then (if wh = 0 then (mlC fd mk nf : Int) else (bcN (mlM fd mk nf) : Int)) else -2
theorem cm_X11_moulds {mk wh : Int} (hf : finC mem nf fd) (hr : finR nf fd) : CM X (0, 0) 2 mX11_moulds G0 [vr 0, vi mk, vi wh] mem (pI G0 fun z m => z = mdA nf fd mk wh ∧ m = mem) := by
  unfold mdA
  refine CM.of (by decide +kernel) 0 (Nat.le_of_ble_eq_true rfl) ?_
  show ZZ X (0, 0) 2 mX11_moulds G0 0 [vr 0, vi mk, vi wh] [] mem _
  refine z_iload_n dX11_moulds_0 rfl ?_
  refine z_iconst dX11_moulds_1 (by decide) ?_
  refine z_iconst dX11_moulds_2 (by decide) ?_
  refine z_S3i dX11_moulds_3 ok_X11_within lk_X11_83 (Nat.le_of_ble_eq_true rfl) (by decide) (cm_X11_within) (fun z1 m1 hm1 => ?_)
  obtain ⟨hz1, rfl⟩ := hm1
  refine z_if_eq 18 dX11_moulds_6 (by decide) (fun h6 => ?_) (fun h6 => ?_)
  · refine z_bipush dX11_moulds_18 (by decide) ?_
    refine z_iret dX11_moulds_20 rfl ?_
    exact ⟨rfl, _, rfl, by rw [if_neg (by omega)], rfl⟩
  · refine z_iload_n dX11_moulds_9 rfl ?_
    refine z_iconst dX11_moulds_10 (by decide) ?_
    refine z_iconst dX11_moulds_11 (by decide) ?_
    refine z_S3i dX11_moulds_12 ok_X11_within lk_X11_83 (Nat.le_of_ble_eq_true rfl) (by decide) (cm_X11_within) (fun z1 m1 hm1 => ?_)
    obtain ⟨hz2, rfl⟩ := hm1
    refine z_if_ne 21 dX11_moulds_15 (by decide) (fun h15 => ?_) (fun h15 => ?_)
    · refine z_iload_n dX11_moulds_21 rfl ?_
      refine z_if_ne 36 dX11_moulds_22 (by decide) (fun h22 => ?_) (fun h22 => ?_)
      · rw [if_pos (by omega), if_neg h22]
        refine z_aload_n dX11_moulds_36 rfl ?_
        refine z_getR (ty := .int) dX11_moulds_37 fl_X11_10 (by first | rfl | assumption) rfl rfl ?_
        refine z_iload_n dX11_moulds_40 rfl ?_
        refine z_V1i dX11_moulds_41 ok_X3_unlikeMoulds lk_X11_153 (by first | rfl | assumption) rfl rfl (Nat.le_of_ble_eq_true rfl) (by decide) (cm_X3_unlikeMoulds hf hr) (fun z3 m3 hm3 => ?_)
        refine z_iret dX11_moulds_44 rfl ?_
        exact ⟨rfl, _, rfl, hm3⟩
      · rw [if_pos (by omega), if_pos h22]
        refine z_aload_n dX11_moulds_25 rfl ?_
        refine z_getR (ty := .int) dX11_moulds_26 fl_X11_10 (by first | rfl | assumption) rfl rfl ?_
        refine z_iload_n dX11_moulds_29 rfl ?_
        refine z_V1i dX11_moulds_30 ok_X3_withMould lk_X11_150 (by first | rfl | assumption) rfl rfl (Nat.le_of_ble_eq_true rfl) (by decide) (cm_X3_withMould hf) (fun z3 m3 hm3 => ?_)
        refine z_goto 44 dX11_moulds_33 (by decide) ?_
        refine z_iret dX11_moulds_44 rfl ?_
        exact ⟨rfl, _, rfl, hm3⟩
    · refine z_bipush dX11_moulds_18 (by decide) ?_
      refine z_iret dX11_moulds_20 rfl ?_
      exact ⟨rfl, _, rfl, by rw [if_neg (by omega)], rfl⟩
theorem cm_X12_mouldsOf {mk wh : Int} (hf : finM mem nf fd) (hr : finR nf fd) : CM X (0, 0) 2 mX12_mouldsOf G0 [vr 88, vi mk, vi wh] mem (pI G0 fun z m => z = (if wh = 0 then (mlC fd mk nf : Int) else (bcN (mlM fd mk nf) : Int)) ∧ m = mem) := by
  have hs := hf.2.1
  have hn := hf.1
  refine CM.of (by decide +kernel) 4 (Nat.le_of_ble_eq_true rfl) ?_
  show ZZ X (0, 0) 2 mX12_mouldsOf G0 0 [vr 88, vi mk, vi wh, vd, vd, vd, vd] [] mem _
  have loop : ∀ (d i : Nat), i + d = nf → ZZ X (0, 0) 2 mX12_mouldsOf G0 11 [vr 88, vi mk, vi wh, vi (mlM fd mk i : Int), vi (mlC fd mk i : Int), vi (bcN (mlM fd mk i) : Int), vi (i : Int)] [] mem (pI G0 fun z m => z = (if wh = 0 then (mlC fd mk nf : Int) else (bcN (mlM fd mk nf) : Int)) ∧ m = mem) := by
    intro d
    induction d with
    | zero =>
      intro i hi
      have : i = nf := by omega
      subst this
      refine z_iload dX12_mouldsOf_11 rfl ?_
      refine z_aload_n dX12_mouldsOf_13 rfl ?_
      refine z_gI 3 dX12_mouldsOf_14 fl_X12_116 (by first | rfl | assumption) rfl rfl ?_
      rw [hs]
      refine z_icmp_ge 86 dX12_mouldsOf_17 (by decide) (fun h17 => ?_) (fun h17 => ?_)
      · refine z_iload_n dX12_mouldsOf_86 rfl ?_
        refine z_if_ne 95 dX12_mouldsOf_87 (by decide) (fun h87 => ?_) (fun h87 => ?_)
        · refine z_iload dX12_mouldsOf_95 rfl ?_
          refine z_iret dX12_mouldsOf_97 rfl ?_
          first | exact ⟨rfl, _, rfl, by rw [if_pos (by omega)], rfl⟩ | exact ⟨rfl, _, rfl, by rw [if_neg (by omega)], rfl⟩
        · refine z_iload dX12_mouldsOf_90 rfl ?_
          refine z_goto 97 dX12_mouldsOf_92 (by decide) ?_
          refine z_iret dX12_mouldsOf_97 rfl ?_
          first | exact ⟨rfl, _, rfl, by rw [if_pos (by omega)], rfl⟩ | exact ⟨rfl, _, rfl, by rw [if_neg (by omega)], rfl⟩
      · omega
    | succ d ih =>
      intro i hi
      have hlt := mlM_lt (mk := mk) hr i (by omega)
      have bd := mlC_le fd mk i
      have bb := bcN_le hlt
      have b := hr i (by omega)
      have ih' := ih (i + 1) (by omega)
      have e1 : mlM fd mk (i + 1) = (if mdP fd mk i then mlM fd mk i ||| 2 ^ (fd 3 i).toNat else mlM fd mk i) := rfl
      have e2 : mlC fd mk (i + 1) = (if mdP fd mk i then mlC fd mk i + 1 else mlC fd mk i) := rfl
      refine z_iload dX12_mouldsOf_11 rfl ?_
      refine z_aload_n dX12_mouldsOf_13 rfl ?_
      refine z_gI 3 dX12_mouldsOf_14 fl_X12_116 (by first | rfl | assumption) rfl rfl ?_
      rw [hs]
      refine z_icmp_ge 86 dX12_mouldsOf_17 (by decide) (fun h17 => ?_) (fun h17 => ?_)
      · omega
      · refine z_aload_n dX12_mouldsOf_20 rfl ?_
        refine z_iload dX12_mouldsOf_21 rfl ?_
        refine z_iload_n dX12_mouldsOf_23 rfl ?_
        refine z_V2i dX12_mouldsOf_24 ok_X12_counts lk_X12_128 (by first | rfl | assumption) rfl rfl (Nat.le_of_ble_eq_true rfl) (by decide) (cm_X12_counts hf (show i < nf by omega)) (fun z1 m1 hm1 => ?_)
        obtain ⟨hz1, rfl⟩ := hm1
        refine z_if_eq 80 dX12_mouldsOf_27 (by decide) (fun h27 => ?_) (fun h27 => ?_)
        · refine z_iinc dX12_mouldsOf_80 rfl (by omega) (by decide) rfl ?_
          dsimp only [List.set]
          refine z_goto 11 dX12_mouldsOf_83 (by decide) ?_
          first | (rw [e1, e2, if_neg (by omega), if_neg (by omega)] at ih'; exact ih') | (rw [e1, e2, if_pos (by omega), if_pos (by omega), eo] at ih'; exact ih')
        · refine z_aload_n dX12_mouldsOf_30 rfl ?_
          refine z_iload dX12_mouldsOf_31 rfl ?_
          refine z_iconst dX12_mouldsOf_33 (by decide) ?_
          refine z_V2i dX12_mouldsOf_34 ok_X12_of lk_X12_122 (by first | rfl | assumption) rfl rfl (Nat.le_of_ble_eq_true rfl) (by decide) (cm_X12_of (i := i) (k := 3) hf (by omega) (by decide)) (fun z2 m2 hm2 => ?_)
          obtain ⟨rfl, rfl⟩ := hm2
          refine z_iconst dX12_mouldsOf_37 (by decide) ?_
          refine z_icmp_eq 80 dX12_mouldsOf_38 (by decide) (fun h38 => ?_) (fun h38 => ?_)
          · refine z_iinc dX12_mouldsOf_80 rfl (by omega) (by decide) rfl ?_
            dsimp only [List.set]
            refine z_goto 11 dX12_mouldsOf_83 (by decide) ?_
            first | (rw [e1, e2, if_neg (by omega), if_neg (by omega)] at ih'; exact ih') | (rw [e1, e2, if_pos (by omega), if_pos (by omega), eo] at ih'; exact ih')
          · have hpw : 2 ^ (fd 3 i).toNat < 2 ^ 20 := Nat.pow_lt_pow_right (by decide) (by omega)
            have eo := bcN_or hlt (show (fd 3 i).toNat < 20 by omega)
            refine z_iinc dX12_mouldsOf_41 rfl (by omega) (by decide) rfl ?_
            dsimp only [List.set]
            refine z_iload dX12_mouldsOf_44 rfl ?_
            refine z_iload_n dX12_mouldsOf_46 rfl ?_
            refine z_aload_n dX12_mouldsOf_47 rfl ?_
            refine z_iload dX12_mouldsOf_48 rfl ?_
            refine z_iconst dX12_mouldsOf_50 (by decide) ?_
            refine z_V2i dX12_mouldsOf_51 ok_X12_of lk_X12_122 (by first | rfl | assumption) rfl rfl (Nat.le_of_ble_eq_true rfl) (by decide) (cm_X12_of (i := i) (k := 3) hf (by omega) (by decide)) (fun z2 m2 hm2 => ?_)
            obtain ⟨rfl, rfl⟩ := hm2
            rw [show fd 3 i = (((fd 3 i).toNat : Nat) : Int) by omega]
            refine z_ishr dX12_mouldsOf_54 ?_
            refine z_iconst dX12_mouldsOf_55 (by decide) ?_
            refine z_iand dX12_mouldsOf_56 ?_
            rw [bit_at (by omega) (by omega)]
            refine z_if_ne 64 dX12_mouldsOf_57 (by decide) (fun h57 => ?_) (fun h57 => ?_)
            · rw [show 1 - mlM fd mk i / 2 ^ (fd 3 i).toNat % 2 = 0 by omega] at eo
              refine z_iconst dX12_mouldsOf_64 (by decide) ?_
              refine z_iadd dX12_mouldsOf_65 (by omega) ?_
              refine z_istore dX12_mouldsOf_66 (by decide) rfl ?_
              dsimp only [List.set]
              refine z_iload_n dX12_mouldsOf_68 rfl ?_
              refine z_iconst dX12_mouldsOf_69 (by decide) ?_
              refine z_aload_n dX12_mouldsOf_70 rfl ?_
              refine z_iload dX12_mouldsOf_71 rfl ?_
              refine z_iconst dX12_mouldsOf_73 (by decide) ?_
              refine z_V2i dX12_mouldsOf_74 ok_X12_of lk_X12_122 (by first | rfl | assumption) rfl rfl (Nat.le_of_ble_eq_true rfl) (by decide) (cm_X12_of (i := i) (k := 3) hf (by omega) (by decide)) (fun z2 m2 hm2 => ?_)
              obtain ⟨rfl, rfl⟩ := hm2
              rw [show fd 3 i = (((fd 3 i).toNat : Nat) : Int) by omega]
              refine z_ishl dX12_mouldsOf_77 ?_
              rw [shl1' (by omega)]
              refine z_ior dX12_mouldsOf_78 ?_
              rw [ior_nat (by omega) (by omega)]
              refine z_istore_n dX12_mouldsOf_79 (by decide) rfl ?_
              dsimp only [List.set]
              refine z_iinc dX12_mouldsOf_80 rfl (by omega) (by decide) rfl ?_
              dsimp only [List.set]
              refine z_goto 11 dX12_mouldsOf_83 (by decide) ?_
              first | (rw [e1, e2, if_neg (by omega), if_neg (by omega)] at ih'; exact ih') | (rw [e1, e2, if_pos (by omega), if_pos (by omega), eo] at ih'; exact ih')
            · rw [show 1 - mlM fd mk i / 2 ^ (fd 3 i).toNat % 2 = 1 by omega] at eo
              refine z_iconst dX12_mouldsOf_60 (by decide) ?_
              refine z_goto 65 dX12_mouldsOf_61 (by decide) ?_
              refine z_iadd dX12_mouldsOf_65 (by omega) ?_
              refine z_istore dX12_mouldsOf_66 (by decide) rfl ?_
              dsimp only [List.set]
              refine z_iload_n dX12_mouldsOf_68 rfl ?_
              refine z_iconst dX12_mouldsOf_69 (by decide) ?_
              refine z_aload_n dX12_mouldsOf_70 rfl ?_
              refine z_iload dX12_mouldsOf_71 rfl ?_
              refine z_iconst dX12_mouldsOf_73 (by decide) ?_
              refine z_V2i dX12_mouldsOf_74 ok_X12_of lk_X12_122 (by first | rfl | assumption) rfl rfl (Nat.le_of_ble_eq_true rfl) (by decide) (cm_X12_of (i := i) (k := 3) hf (by omega) (by decide)) (fun z2 m2 hm2 => ?_)
              obtain ⟨rfl, rfl⟩ := hm2
              rw [show fd 3 i = (((fd 3 i).toNat : Nat) : Int) by omega]
              refine z_ishl dX12_mouldsOf_77 ?_
              rw [shl1' (by omega)]
              refine z_ior dX12_mouldsOf_78 ?_
              rw [ior_nat (by omega) (by omega)]
              refine z_istore_n dX12_mouldsOf_79 (by decide) rfl ?_
              dsimp only [List.set]
              refine z_iinc dX12_mouldsOf_80 rfl (by omega) (by decide) rfl ?_
              dsimp only [List.set]
              refine z_goto 11 dX12_mouldsOf_83 (by decide) ?_
              first | (rw [e1, e2, if_neg (by omega), if_neg (by omega)] at ih'; exact ih') | (rw [e1, e2, if_pos (by omega), if_pos (by omega), eo] at ih'; exact ih')
  refine z_iconst dX12_mouldsOf_0 (by decide) ?_
  refine z_istore_n dX12_mouldsOf_1 (by decide) rfl ?_
  dsimp only [List.set]
  refine z_iconst dX12_mouldsOf_2 (by decide) ?_
  refine z_istore dX12_mouldsOf_3 (by decide) rfl ?_
  dsimp only [List.set]
  refine z_iconst dX12_mouldsOf_5 (by decide) ?_
  refine z_istore dX12_mouldsOf_6 (by decide) rfl ?_
  dsimp only [List.set]
  refine z_iconst dX12_mouldsOf_8 (by decide) ?_
  refine z_istore dX12_mouldsOf_9 (by decide) rfl ?_
  dsimp only [List.set]
  have h0 := loop nf 0 (by omega)
  rw [show bcN (mlM fd mk 0) = 0 from bcN0] at h0
  exact h0
theorem cm_X12_moulds {mk wh : Int} (hf : finM mem nf fd) (hr : finR nf fd) : CM X (0, 0) 3 mX12_moulds G0 [vr 88, vi mk, vi wh] mem (pI G0 fun z m => z = mdA nf fd mk wh ∧ m = mem) := by
  unfold mdA
  refine CM.of (by decide +kernel) 0 (Nat.le_of_ble_eq_true rfl) ?_
  show ZZ X (0, 0) 3 mX12_moulds G0 0 [vr 88, vi mk, vi wh] [] mem _
  refine z_iload_n dX12_moulds_0 rfl ?_
  refine z_S1i dX12_moulds_1 ok_X12_isMaker lk_X12_103 (Nat.le_of_ble_eq_true rfl) (by decide) (cm_X12_isMaker) (fun z1 m1 hm1 => ?_)
  obtain ⟨hz1, rfl⟩ := hm1
  refine z_if_eq 26 dX12_moulds_4 (by decide) (fun h4 => ?_) (fun h4 => ?_)
  · refine z_bipush dX12_moulds_26 (by decide) ?_
    refine z_iret dX12_moulds_28 rfl ?_
    first | exact ⟨rfl, _, rfl, by rw [if_pos (by omega)]; exact hm2.1, hm2.2⟩ | exact ⟨rfl, _, rfl, by rw [if_neg (by omega)], rfl⟩
  · refine z_iload_n dX12_moulds_7 rfl ?_
    refine z_i2l dX12_moulds_8 ?_
    refine z_lconst (z := 0) dX12_moulds_9 rfl (by decide) ?_
    refine z_lconst (z := 1) dX12_moulds_10 rfl (by decide) ?_
    refine z_S3i dX12_moulds_11 ok_X12_in lk_X12_97 (Nat.le_of_ble_eq_true rfl) (by decide) (cm_X12_in) (fun z1 m1 hm1 => ?_)
    obtain ⟨hz2, rfl⟩ := hm1
    refine z_if_eq 26 dX12_moulds_14 (by decide) (fun h14 => ?_) (fun h14 => ?_)
    · refine z_bipush dX12_moulds_26 (by decide) ?_
      refine z_iret dX12_moulds_28 rfl ?_
      first | exact ⟨rfl, _, rfl, by rw [if_pos (by omega)]; exact hm2.1, hm2.2⟩ | exact ⟨rfl, _, rfl, by rw [if_neg (by omega)], rfl⟩
    · refine z_aload_n dX12_moulds_17 rfl ?_
      refine z_iload_n dX12_moulds_18 rfl ?_
      refine z_iload_n dX12_moulds_19 rfl ?_
      refine z_V2i dX12_moulds_20 ok_X12_mouldsOf lk_X12_202 (by first | rfl | assumption) rfl rfl (Nat.le_of_ble_eq_true rfl) (by decide) (cm_X12_mouldsOf hf hr) (fun z2 m2 hm2 => ?_)
      refine z_goto 28 dX12_moulds_23 (by decide) ?_
      refine z_iret dX12_moulds_28 rfl ?_
      first | exact ⟨rfl, _, rfl, by rw [if_pos (by omega)]; exact hm2.1, hm2.2⟩ | exact ⟨rfl, _, rfl, by rw [if_neg (by omega)], rfl⟩
end Mould
