/-! ===== mixes and digest: both sides ===== -/
def mxS (h v : Int) : Int := w64 (w64 (31 * h) + v)
/-- the rows of a table, one behind the other -/
def flt (c : Nat) (fd : Nat → Nat → Int) (j : Int) : Int := fd (j.toNat % c) (j.toNat / c)
theorem mxF_congr {f g : Int → Int} {h : Int} : ∀ {n : Nat}, (∀ j : Nat, j < n → f (j : Int) = g (j : Int)) → mxF f n h = mxF g n h
  | 0, _ => rfl
  | n + 1, e => by
    show mxS (mxF f n h) (f (n : Int)) = mxS (mxF g n h) (g (n : Int))
    rw [mxF_congr fun j hj => e j (by omega), e n (by omega)]
theorem mxF_s (f : Int → Int) (n : Nat) (h : Int) : mxF f (n + 1) h = mxS (mxF f n h) (f (n : Int)) := rfl
theorem flt_at {c : Nat} {fd : Nat → Nat → Int} {i k : Nat} (hk : k < c) : flt c fd ((c * i + k : Nat) : Int) = fd k i := by
  unfold flt
  rw [Int.toNat_natCast, Nat.mul_add_mod, Nat.mod_eq_of_lt hk, Nat.mul_add_div (by omega), Nat.div_eq_of_lt hk, Nat.add_zero]
theorem flt_row {c n : Nat} {fd : Nat → Nat → Int} {f : Int → Int} (h : ∀ k i : Nat, k < c → i < n → f ((c : Int) * (i : Int) + (k : Int)) = fd k i) (hc : 0 < c) : ∀ j : Nat, j < c * n → f (j : Int) = flt c fd (j : Int) := by
  intro j hj
  have hd : j / c < n := Nat.div_lt_of_lt_mul hj
  have hm := Nat.mod_lt j hc
  have e := Nat.div_add_mod j c
  have := h (j % c) (j / c) hm hd
  rw [show (c : Int) * ((j / c : Nat) : Int) + ((j % c : Nat) : Int) = (j : Int) by rw [← Int.natCast_mul, ← Int.natCast_add, e]] at this
  rw [this]
  unfold flt
  rw [Int.toNat_natCast]
section Mix
variable {X : Nat × (Int → Int)} {mem : Mem} {nf np nw : Nat} {fd pr fr bk wd : Nat → Nat → Int} {h : Int}
/-- the words: rows 23 .. 26 and 95 -/
def wdC (mem : Mem) (nw : Nat) (wd : Nat → Nat → Int) : Prop := nw ≤ 12 ∧ mem 22 4 = (nw : Int) ∧ ∀ k i : Nat, k < 4 → i < nw → mem (23 + k) (i : Int) = wd k i
def wdM (mem : Mem) (nw : Nat) (wd : Nat → Nat → Int) : Prop := nw ≤ 12 ∧ mem 88 13 = (nw : Int) ∧ ∀ k i : Nat, k < 4 → i < nw → mem 95 (4 * (i : Int) + (k : Int)) = wd k i

theorem cm_X3_mix (hf : finC mem nf fd) (hr : finR nf fd) : CM X (0, 0) 0 mX3_mix G0 [vr 1, vl h] mem (pL G0 fun z m => z = mxF (flt 6 fd) (6 * nf) h ∧ m = mem) := by
  have hs := hf.2.1
  have hn := hf.1
  refine CM.of (by decide +kernel) 3 (Nat.le_of_ble_eq_true rfl) ?_
  show ZZ X (0, 0) 0 mX3_mix G0 0 [vr 1, vl h, vd, vd, vd, vd] [] mem _
  have loop : ∀ (d i : Nat), i + d = nf → ZZ X (0, 0) 0 mX3_mix G0 5 [vr 1, vl h, vd, vl (mxF (flt 6 fd) (6 * i) h), vd, vi (i : Int)] [] mem (pL G0 fun z m => z = mxF (flt 6 fd) (6 * nf) h ∧ m = mem) := by
    intro d
    induction d with
    | zero =>
      intro i hi
      have : i = nf := by omega
      subst this
      refine z_iload dX3_mix_5 rfl ?_
      refine z_aload_n dX3_mix_7 rfl ?_
      refine z_gI 6 dX3_mix_8 fl_X3_31 (by first | rfl | assumption) rfl rfl ?_
      rw [hs]
      refine z_icmp_ge 118 dX3_mix_11 (by decide) (fun h11 => ?_) (fun h11 => ?_)
      · refine z_lload_n dX3_mix_118 rfl ?_
        refine z_lret dX3_mix_119 rfl ?_
        exact ⟨rfl, _, rfl, rfl, rfl⟩
      · omega
    | succ d ih =>
      intro i hi
      have ih' := ih (i + 1) (by omega)
      have r0 : mem 2 (i : Int) = fd 0 i := hf.2.2.1 0 i (by decide) (by omega)
      have r1 : mem 3 (i : Int) = fd 1 i := hf.2.2.1 1 i (by decide) (by omega)
      have r2 : mem 4 (i : Int) = fd 2 i := hf.2.2.1 2 i (by decide) (by omega)
      have r3 : mem 5 (i : Int) = fd 3 i := hf.2.2.1 3 i (by decide) (by omega)
      have r4 : mem 6 (i : Int) = fd 4 i := hf.2.2.1 4 i (by decide) (by omega)
      have r5 : mem 7 (i : Int) = fd 5 i := hf.2.2.1 5 i (by decide) (by omega)
      have b5 := (hr i (by omega)).2.2.2.2.2
      have e : mxF (flt 6 fd) (6 * (i + 1)) h = (mxS (mxS (mxS (mxS (mxS (mxS (mxF (flt 6 fd) (6 * i) h) (fd 0 i)) (fd 1 i)) (fd 2 i)) (fd 3 i)) (fd 4 i)) (fd 5 i)) := by
        rw [show 6 * (i + 1) = 6 * i + 6 by omega]
        rw [show mxF (flt 6 fd) (6 * i + 6) h = mxS (mxF (flt 6 fd) (6 * i + 5) h) (flt 6 fd ((6 * i + 5 : Nat) : Int)) from rfl, show mxF (flt 6 fd) (6 * i + 5) h = mxS (mxF (flt 6 fd) (6 * i + 4) h) (flt 6 fd ((6 * i + 4 : Nat) : Int)) from rfl, show mxF (flt 6 fd) (6 * i + 4) h = mxS (mxF (flt 6 fd) (6 * i + 3) h) (flt 6 fd ((6 * i + 3 : Nat) : Int)) from rfl, show mxF (flt 6 fd) (6 * i + 3) h = mxS (mxF (flt 6 fd) (6 * i + 2) h) (flt 6 fd ((6 * i + 2 : Nat) : Int)) from rfl, show mxF (flt 6 fd) (6 * i + 2) h = mxS (mxF (flt 6 fd) (6 * i + 1) h) (flt 6 fd ((6 * i + 1 : Nat) : Int)) from rfl, show mxF (flt 6 fd) (6 * i + 1) h = mxS (mxF (flt 6 fd) (6 * i + 0) h) (flt 6 fd ((6 * i + 0 : Nat) : Int)) from rfl]
        rw [flt_at (c := 6) (k := 5) (by decide), flt_at (c := 6) (k := 4) (by decide), flt_at (c := 6) (k := 3) (by decide), flt_at (c := 6) (k := 2) (by decide), flt_at (c := 6) (k := 1) (by decide), flt_at (c := 6) (k := 0) (by decide)]
        rfl
      rw [e] at ih'
      refine z_iload dX3_mix_5 rfl ?_
      refine z_aload_n dX3_mix_7 rfl ?_
      refine z_gI 6 dX3_mix_8 fl_X3_31 (by first | rfl | assumption) rfl rfl ?_
      rw [hs]
      refine z_icmp_ge 118 dX3_mix_11 (by decide) (fun h11 => ?_) (fun h11 => ?_)
      · omega
      · refine z_ldc2 (z := 31) dX3_mix_14 kc_X3_54 (by decide) ?_
        refine z_lload_n dX3_mix_17 rfl ?_
        refine z_lmulw dX3_mix_18 ?_
        refine z_aload_n dX3_mix_19 rfl ?_
        refine z_getR (ty := .int) dX3_mix_20 fl_X3_11 (by first | rfl | assumption) rfl rfl ?_
        refine z_iload dX3_mix_23 rfl ?_
        refine z_iald dX3_mix_25 (by first | rfl | assumption) (by omega) (by omega) ?_
        rw [r0]
        refine z_i2l dX3_mix_26 ?_
        refine z_laddw dX3_mix_27 ?_
        refine z_lstore_n dX3_mix_28 (by decide) rfl ?_
        dsimp only [List.set]
        refine z_ldc2 (z := 31) dX3_mix_29 kc_X3_54 (by decide) ?_
        refine z_lload_n dX3_mix_32 rfl ?_
        refine z_lmulw dX3_mix_33 ?_
        refine z_aload_n dX3_mix_34 rfl ?_
        refine z_getR (ty := .int) dX3_mix_35 fl_X3_15 (by first | rfl | assumption) rfl rfl ?_
        refine z_iload dX3_mix_38 rfl ?_
        refine z_iald dX3_mix_40 (by first | rfl | assumption) (by omega) (by omega) ?_
        rw [r1]
        refine z_i2l dX3_mix_41 ?_
        refine z_laddw dX3_mix_42 ?_
        refine z_lstore_n dX3_mix_43 (by decide) rfl ?_
        dsimp only [List.set]
        refine z_ldc2 (z := 31) dX3_mix_44 kc_X3_54 (by decide) ?_
        refine z_lload_n dX3_mix_47 rfl ?_
        refine z_lmulw dX3_mix_48 ?_
        refine z_aload_n dX3_mix_49 rfl ?_
        refine z_getR (ty := .int) dX3_mix_50 fl_X3_18 (by first | rfl | assumption) rfl rfl ?_
        refine z_iload dX3_mix_53 rfl ?_
        refine z_iald dX3_mix_55 (by first | rfl | assumption) (by omega) (by omega) ?_
        rw [r2]
        refine z_i2l dX3_mix_56 ?_
        refine z_laddw dX3_mix_57 ?_
        refine z_lstore_n dX3_mix_58 (by decide) rfl ?_
        dsimp only [List.set]
        refine z_ldc2 (z := 31) dX3_mix_59 kc_X3_54 (by decide) ?_
        refine z_lload_n dX3_mix_62 rfl ?_
        refine z_lmulw dX3_mix_63 ?_
        refine z_aload_n dX3_mix_64 rfl ?_
        refine z_getR (ty := .int) dX3_mix_65 fl_X3_21 (by first | rfl | assumption) rfl rfl ?_
        refine z_iload dX3_mix_68 rfl ?_
        refine z_iald dX3_mix_70 (by first | rfl | assumption) (by omega) (by omega) ?_
        rw [r3]
        refine z_i2l dX3_mix_71 ?_
        refine z_laddw dX3_mix_72 ?_
        refine z_lstore_n dX3_mix_73 (by decide) rfl ?_
        dsimp only [List.set]
        refine z_ldc2 (z := 31) dX3_mix_74 kc_X3_54 (by decide) ?_
        refine z_lload_n dX3_mix_77 rfl ?_
        refine z_lmulw dX3_mix_78 ?_
        refine z_aload_n dX3_mix_79 rfl ?_
        refine z_getR (ty := .int) dX3_mix_80 fl_X3_24 (by first | rfl | assumption) rfl rfl ?_
        refine z_iload dX3_mix_83 rfl ?_
        refine z_iald dX3_mix_85 (by first | rfl | assumption) (by omega) (by omega) ?_
        rw [r4]
        refine z_i2l dX3_mix_86 ?_
        refine z_laddw dX3_mix_87 ?_
        refine z_lstore_n dX3_mix_88 (by decide) rfl ?_
        dsimp only [List.set]
        refine z_ldc2 (z := 31) dX3_mix_89 kc_X3_54 (by decide) ?_
        refine z_lload_n dX3_mix_92 rfl ?_
        refine z_lmulw dX3_mix_93 ?_
        refine z_aload_n dX3_mix_94 rfl ?_
        refine z_getR (ty := .int) dX3_mix_95 fl_X3_27 (by first | rfl | assumption) rfl rfl ?_
        refine z_iload dX3_mix_98 rfl ?_
        refine z_zald dX3_mix_100 (by first | rfl | assumption) (by omega) (by omega) (fun h100 => ?_)
        rw [r5] at h100 ⊢
        refine z_if_eq 108 dX3_mix_101 (by decide) (fun h101 => ?_) (fun h101 => ?_)
        · have e5 : fd 5 i = 0 := by omega
          rw [e5] at ih'
          refine z_iconst dX3_mix_108 (by decide) ?_
          refine z_i2l dX3_mix_109 ?_
          refine z_laddw dX3_mix_110 ?_
          refine z_lstore_n dX3_mix_111 (by decide) rfl ?_
          dsimp only [List.set]
          refine z_iinc dX3_mix_112 rfl (by omega) (by decide) rfl ?_
          dsimp only [List.set]
          refine z_goto 5 dX3_mix_115 (by decide) ?_
          exact ih'
        · have e5 : fd 5 i = 1 := by omega
          rw [e5] at ih'
          refine z_iconst dX3_mix_104 (by decide) ?_
          refine z_goto 109 dX3_mix_105 (by decide) ?_
          refine z_i2l dX3_mix_109 ?_
          refine z_laddw dX3_mix_110 ?_
          refine z_lstore_n dX3_mix_111 (by decide) rfl ?_
          dsimp only [List.set]
          refine z_iinc dX3_mix_112 rfl (by omega) (by decide) rfl ?_
          dsimp only [List.set]
          refine z_goto 5 dX3_mix_115 (by decide) ?_
          exact ih'
  refine z_lload_n dX3_mix_0 rfl ?_
  refine z_lstore_n dX3_mix_1 (by decide) rfl ?_
  dsimp only [List.set]
  refine z_iconst dX3_mix_2 (by decide) ?_
  refine z_istore dX3_mix_3 (by decide) rfl ?_
  dsimp only [List.set]
  exact loop nf 0 (by omega)
theorem cm_X10_mix (hf : wdC mem nw wd) : CM X (0, 0) 0 mX10_mix G0 [vr 22, vl h] mem (pL G0 fun z m => z = mxF (flt 4 wd) (4 * nw) h ∧ m = mem) := by
  have hs := hf.2.1
  have hn := hf.1
  refine CM.of (by decide +kernel) 3 (Nat.le_of_ble_eq_true rfl) ?_
  show ZZ X (0, 0) 0 mX10_mix G0 0 [vr 22, vl h, vd, vd, vd, vd] [] mem _
  have loop : ∀ (d i : Nat), i + d = nw → ZZ X (0, 0) 0 mX10_mix G0 5 [vr 22, vl h, vd, vl (mxF (flt 4 wd) (4 * i) h), vd, vi (i : Int)] [] mem (pL G0 fun z m => z = mxF (flt 4 wd) (4 * nw) h ∧ m = mem) := by
    intro d
    induction d with
    | zero =>
      intro i hi
      have : i = nw := by omega
      subst this
      refine z_iload dX10_mix_5 rfl ?_
      refine z_aload_n dX10_mix_7 rfl ?_
      refine z_gI 4 dX10_mix_8 fl_X10_40 (by first | rfl | assumption) rfl rfl ?_
      rw [hs]
      refine z_icmp_ge 80 dX10_mix_11 (by decide) (fun h11 => ?_) (fun h11 => ?_)
      · refine z_lload_n dX10_mix_80 rfl ?_
        refine z_lret dX10_mix_81 rfl ?_
        exact ⟨rfl, _, rfl, rfl, rfl⟩
      · omega
    | succ d ih =>
      intro i hi
      have ih' := ih (i + 1) (by omega)
      have r0 : mem 23 (i : Int) = wd 0 i := hf.2.2 0 i (by decide) (by omega)
      have r1 : mem 24 (i : Int) = wd 1 i := hf.2.2 1 i (by decide) (by omega)
      have r2 : mem 25 (i : Int) = wd 2 i := hf.2.2 2 i (by decide) (by omega)
      have r3 : mem 26 (i : Int) = wd 3 i := hf.2.2 3 i (by decide) (by omega)
      have e : mxF (flt 4 wd) (4 * (i + 1)) h = (mxS (mxS (mxS (mxS (mxF (flt 4 wd) (4 * i) h) (wd 0 i)) (wd 1 i)) (wd 2 i)) (wd 3 i)) := by
        rw [show 4 * (i + 1) = 4 * i + 4 by omega]
        rw [show mxF (flt 4 wd) (4 * i + 4) h = mxS (mxF (flt 4 wd) (4 * i + 3) h) (flt 4 wd ((4 * i + 3 : Nat) : Int)) from rfl, show mxF (flt 4 wd) (4 * i + 3) h = mxS (mxF (flt 4 wd) (4 * i + 2) h) (flt 4 wd ((4 * i + 2 : Nat) : Int)) from rfl, show mxF (flt 4 wd) (4 * i + 2) h = mxS (mxF (flt 4 wd) (4 * i + 1) h) (flt 4 wd ((4 * i + 1 : Nat) : Int)) from rfl, show mxF (flt 4 wd) (4 * i + 1) h = mxS (mxF (flt 4 wd) (4 * i + 0) h) (flt 4 wd ((4 * i + 0 : Nat) : Int)) from rfl]
        rw [flt_at (c := 4) (k := 3) (by decide), flt_at (c := 4) (k := 2) (by decide), flt_at (c := 4) (k := 1) (by decide), flt_at (c := 4) (k := 0) (by decide)]
        rfl
      rw [e] at ih'
      refine z_iload dX10_mix_5 rfl ?_
      refine z_aload_n dX10_mix_7 rfl ?_
      refine z_gI 4 dX10_mix_8 fl_X10_40 (by first | rfl | assumption) rfl rfl ?_
      rw [hs]
      refine z_icmp_ge 80 dX10_mix_11 (by decide) (fun h11 => ?_) (fun h11 => ?_)
      · omega
      · refine z_ldc2 (z := 31) dX10_mix_14 kc_X10_110 (by decide) ?_
        refine z_lload_n dX10_mix_17 rfl ?_
        refine z_lmulw dX10_mix_18 ?_
        refine z_aload_n dX10_mix_19 rfl ?_
        refine z_getR (ty := .int) dX10_mix_20 fl_X10_11 (by first | rfl | assumption) rfl rfl ?_
        refine z_iload dX10_mix_23 rfl ?_
        refine z_iald dX10_mix_25 (by first | rfl | assumption) (by omega) (by omega) ?_
        rw [r0]
        refine z_i2l dX10_mix_26 ?_
        refine z_laddw dX10_mix_27 ?_
        refine z_lstore_n dX10_mix_28 (by decide) rfl ?_
        dsimp only [List.set]
        refine z_ldc2 (z := 31) dX10_mix_29 kc_X10_110 (by decide) ?_
        refine z_lload_n dX10_mix_32 rfl ?_
        refine z_lmulw dX10_mix_33 ?_
        refine z_aload_n dX10_mix_34 rfl ?_
        refine z_getR (ty := .int) dX10_mix_35 fl_X10_15 (by first | rfl | assumption) rfl rfl ?_
        refine z_iload dX10_mix_38 rfl ?_
        refine z_iald dX10_mix_40 (by first | rfl | assumption) (by omega) (by omega) ?_
        rw [r1]
        refine z_i2l dX10_mix_41 ?_
        refine z_laddw dX10_mix_42 ?_
        refine z_lstore_n dX10_mix_43 (by decide) rfl ?_
        dsimp only [List.set]
        refine z_ldc2 (z := 31) dX10_mix_44 kc_X10_110 (by decide) ?_
        refine z_lload_n dX10_mix_47 rfl ?_
        refine z_lmulw dX10_mix_48 ?_
        refine z_aload_n dX10_mix_49 rfl ?_
        refine z_getR (ty := .int) dX10_mix_50 fl_X10_18 (by first | rfl | assumption) rfl rfl ?_
        refine z_iload dX10_mix_53 rfl ?_
        refine z_iald dX10_mix_55 (by first | rfl | assumption) (by omega) (by omega) ?_
        rw [r2]
        refine z_i2l dX10_mix_56 ?_
        refine z_laddw dX10_mix_57 ?_
        refine z_lstore_n dX10_mix_58 (by decide) rfl ?_
        dsimp only [List.set]
        refine z_ldc2 (z := 31) dX10_mix_59 kc_X10_110 (by decide) ?_
        refine z_lload_n dX10_mix_62 rfl ?_
        refine z_lmulw dX10_mix_63 ?_
        refine z_aload_n dX10_mix_64 rfl ?_
        refine z_getR (ty := .int) dX10_mix_65 fl_X10_21 (by first | rfl | assumption) rfl rfl ?_
        refine z_iload dX10_mix_68 rfl ?_
        refine z_iald dX10_mix_70 (by first | rfl | assumption) (by omega) (by omega) ?_
        rw [r3]
        refine z_i2l dX10_mix_71 ?_
        refine z_laddw dX10_mix_72 ?_
        refine z_lstore_n dX10_mix_73 (by decide) rfl ?_
        dsimp only [List.set]
        refine z_iinc dX10_mix_74 rfl (by omega) (by decide) rfl ?_
        dsimp only [List.set]
        refine z_goto 5 dX10_mix_77 (by decide) ?_
        exact ih'
  refine z_lload_n dX10_mix_0 rfl ?_
  refine z_lstore_n dX10_mix_1 (by decide) rfl ?_
  dsimp only [List.set]
  refine z_iconst dX10_mix_2 (by decide) ?_
  refine z_istore dX10_mix_3 (by decide) rfl ?_
  dsimp only [List.set]
  exact loop nw 0 (by omega)
theorem cm_X0_mix (hf : prC mem np pr) : CM X (0, 0) 0 mX0_mix G0 [vr 68, vl h] mem (pL G0 fun z m => z = mxF (flt 3 pr) (3 * np) h ∧ m = mem) := by
  have hs := hf.2.1
  have hn := hf.1
  refine CM.of (by decide +kernel) 3 (Nat.le_of_ble_eq_true rfl) ?_
  show ZZ X (0, 0) 0 mX0_mix G0 0 [vr 68, vl h, vd, vd, vd, vd] [] mem _
  have loop : ∀ (d i : Nat), i + d = np → ZZ X (0, 0) 0 mX0_mix G0 5 [vr 68, vl h, vd, vl (mxF (flt 3 pr) (3 * i) h), vd, vi (i : Int)] [] mem (pL G0 fun z m => z = mxF (flt 3 pr) (3 * np) h ∧ m = mem) := by
    intro d
    induction d with
    | zero =>
      intro i hi
      have : i = np := by omega
      subst this
      refine z_iload dX0_mix_5 rfl ?_
      refine z_aload_n dX0_mix_7 rfl ?_
      refine z_gI 3 dX0_mix_8 fl_X0_21 (by first | rfl | assumption) rfl rfl ?_
      rw [hs]
      refine z_icmp_ge 65 dX0_mix_11 (by decide) (fun h11 => ?_) (fun h11 => ?_)
      · refine z_lload_n dX0_mix_65 rfl ?_
        refine z_lret dX0_mix_66 rfl ?_
        exact ⟨rfl, _, rfl, rfl, rfl⟩
      · omega
    | succ d ih =>
      intro i hi
      have ih' := ih (i + 1) (by omega)
      have r0 : mem 69 (i : Int) = pr 0 i := hf.2.2 0 i (by decide) (by omega)
      have r1 : mem 70 (i : Int) = pr 1 i := hf.2.2 1 i (by decide) (by omega)
      have r2 : mem 71 (i : Int) = pr 2 i := hf.2.2 2 i (by decide) (by omega)
      have e : mxF (flt 3 pr) (3 * (i + 1)) h = (mxS (mxS (mxS (mxF (flt 3 pr) (3 * i) h) (pr 0 i)) (pr 1 i)) (pr 2 i)) := by
        rw [show 3 * (i + 1) = 3 * i + 3 by omega]
        rw [show mxF (flt 3 pr) (3 * i + 3) h = mxS (mxF (flt 3 pr) (3 * i + 2) h) (flt 3 pr ((3 * i + 2 : Nat) : Int)) from rfl, show mxF (flt 3 pr) (3 * i + 2) h = mxS (mxF (flt 3 pr) (3 * i + 1) h) (flt 3 pr ((3 * i + 1 : Nat) : Int)) from rfl, show mxF (flt 3 pr) (3 * i + 1) h = mxS (mxF (flt 3 pr) (3 * i + 0) h) (flt 3 pr ((3 * i + 0 : Nat) : Int)) from rfl]
        rw [flt_at (c := 3) (k := 2) (by decide), flt_at (c := 3) (k := 1) (by decide), flt_at (c := 3) (k := 0) (by decide)]
        rfl
      rw [e] at ih'
      refine z_iload dX0_mix_5 rfl ?_
      refine z_aload_n dX0_mix_7 rfl ?_
      refine z_gI 3 dX0_mix_8 fl_X0_21 (by first | rfl | assumption) rfl rfl ?_
      rw [hs]
      refine z_icmp_ge 65 dX0_mix_11 (by decide) (fun h11 => ?_) (fun h11 => ?_)
      · omega
      · refine z_ldc2 (z := 31) dX0_mix_14 kc_X0_44 (by decide) ?_
        refine z_lload_n dX0_mix_17 rfl ?_
        refine z_lmulw dX0_mix_18 ?_
        refine z_aload_n dX0_mix_19 rfl ?_
        refine z_getR (ty := .int) dX0_mix_20 fl_X0_11 (by first | rfl | assumption) rfl rfl ?_
        refine z_iload dX0_mix_23 rfl ?_
        refine z_iald dX0_mix_25 (by first | rfl | assumption) (by omega) (by omega) ?_
        rw [r0]
        refine z_i2l dX0_mix_26 ?_
        refine z_laddw dX0_mix_27 ?_
        refine z_lstore_n dX0_mix_28 (by decide) rfl ?_
        dsimp only [List.set]
        refine z_ldc2 (z := 31) dX0_mix_29 kc_X0_44 (by decide) ?_
        refine z_lload_n dX0_mix_32 rfl ?_
        refine z_lmulw dX0_mix_33 ?_
        refine z_aload_n dX0_mix_34 rfl ?_
        refine z_getR (ty := .int) dX0_mix_35 fl_X0_15 (by first | rfl | assumption) rfl rfl ?_
        refine z_iload dX0_mix_38 rfl ?_
        refine z_iald dX0_mix_40 (by first | rfl | assumption) (by omega) (by omega) ?_
        rw [r1]
        refine z_i2l dX0_mix_41 ?_
        refine z_laddw dX0_mix_42 ?_
        refine z_lstore_n dX0_mix_43 (by decide) rfl ?_
        dsimp only [List.set]
        refine z_ldc2 (z := 31) dX0_mix_44 kc_X0_44 (by decide) ?_
        refine z_lload_n dX0_mix_47 rfl ?_
        refine z_lmulw dX0_mix_48 ?_
        refine z_aload_n dX0_mix_49 rfl ?_
        refine z_getR (ty := .int) dX0_mix_50 fl_X0_18 (by first | rfl | assumption) rfl rfl ?_
        refine z_iload dX0_mix_53 rfl ?_
        refine z_iald dX0_mix_55 (by first | rfl | assumption) (by omega) (by omega) ?_
        rw [r2]
        refine z_i2l dX0_mix_56 ?_
        refine z_laddw dX0_mix_57 ?_
        refine z_lstore_n dX0_mix_58 (by decide) rfl ?_
        dsimp only [List.set]
        refine z_iinc dX0_mix_59 rfl (by omega) (by decide) rfl ?_
        dsimp only [List.set]
        refine z_goto 5 dX0_mix_62 (by decide) ?_
        exact ih'
  refine z_lload_n dX0_mix_0 rfl ?_
  refine z_lstore_n dX0_mix_1 (by decide) rfl ?_
  dsimp only [List.set]
  refine z_iconst dX0_mix_2 (by decide) ?_
  refine z_istore dX0_mix_3 (by decide) rfl ?_
  dsimp only [List.set]
  exact loop np 0 (by omega)
theorem cm_X5_mix (hf : frC mem fr) : CM X (0, 0) 0 mX5_mix G0 [vr 72, vl h] mem (pL G0 fun z m => z = mxF (flt 2 fr) (2 * 4) h ∧ m = mem) := by
  refine CM.of (by decide +kernel) 3 (Nat.le_of_ble_eq_true rfl) ?_
  show ZZ X (0, 0) 0 mX5_mix G0 0 [vr 72, vl h, vd, vd, vd, vd] [] mem _
  have loop : ∀ (d i : Nat), i + d = 4 → ZZ X (0, 0) 0 mX5_mix G0 5 [vr 72, vl h, vd, vl (mxF (flt 2 fr) (2 * i) h), vd, vi (i : Int)] [] mem (pL G0 fun z m => z = mxF (flt 2 fr) (2 * 4) h ∧ m = mem) := by
    intro d
    induction d with
    | zero =>
      intro i hi
      have : i = 4 := by omega
      subst this
      refine z_iload dX5_mix_5 rfl ?_
      refine z_iconst dX5_mix_7 (by decide) ?_
      refine z_icmp_ge 47 dX5_mix_8 (by decide) (fun h8 => ?_) (fun h8 => ?_)
      · refine z_lload_n dX5_mix_47 rfl ?_
        refine z_lret dX5_mix_48 rfl ?_
        exact ⟨rfl, _, rfl, rfl, rfl⟩
      · omega
    | succ d ih =>
      intro i hi
      have ih' := ih (i + 1) (by omega)
      have r0 : mem 73 (i : Int) = fr 0 i := hf 0 i (by decide) (by omega)
      have r1 : mem 74 (i : Int) = fr 1 i := hf 1 i (by decide) (by omega)
      have e : mxF (flt 2 fr) (2 * (i + 1)) h = (mxS (mxS (mxF (flt 2 fr) (2 * i) h) (fr 0 i)) (fr 1 i)) := by
        rw [show 2 * (i + 1) = 2 * i + 2 by omega]
        rw [show mxF (flt 2 fr) (2 * i + 2) h = mxS (mxF (flt 2 fr) (2 * i + 1) h) (flt 2 fr ((2 * i + 1 : Nat) : Int)) from rfl, show mxF (flt 2 fr) (2 * i + 1) h = mxS (mxF (flt 2 fr) (2 * i + 0) h) (flt 2 fr ((2 * i + 0 : Nat) : Int)) from rfl]
        rw [flt_at (c := 2) (k := 1) (by decide), flt_at (c := 2) (k := 0) (by decide)]
        rfl
      rw [e] at ih'
      refine z_iload dX5_mix_5 rfl ?_
      refine z_iconst dX5_mix_7 (by decide) ?_
      refine z_icmp_ge 47 dX5_mix_8 (by decide) (fun h8 => ?_) (fun h8 => ?_)
      · omega
      · refine z_ldc2 (z := 31) dX5_mix_11 kc_X5_36 (by decide) ?_
        refine z_lload_n dX5_mix_14 rfl ?_
        refine z_lmulw dX5_mix_15 ?_
        refine z_aload_n dX5_mix_16 rfl ?_
        refine z_getR (ty := .int) dX5_mix_17 fl_X5_9 (by first | rfl | assumption) rfl rfl ?_
        refine z_iload dX5_mix_20 rfl ?_
        refine z_iald dX5_mix_22 (by first | rfl | assumption) (by omega) (by omega) ?_
        rw [r0]
        refine z_i2l dX5_mix_23 ?_
        refine z_laddw dX5_mix_24 ?_
        refine z_lstore_n dX5_mix_25 (by decide) rfl ?_
        dsimp only [List.set]
        refine z_ldc2 (z := 31) dX5_mix_26 kc_X5_36 (by decide) ?_
        refine z_lload_n dX5_mix_29 rfl ?_
        refine z_lmulw dX5_mix_30 ?_
        refine z_aload_n dX5_mix_31 rfl ?_
        refine z_getR (ty := .int) dX5_mix_32 fl_X5_15 (by first | rfl | assumption) rfl rfl ?_
        refine z_iload dX5_mix_35 rfl ?_
        refine z_iald dX5_mix_37 (by first | rfl | assumption) (by omega) (by omega) ?_
        rw [r1]
        refine z_i2l dX5_mix_38 ?_
        refine z_laddw dX5_mix_39 ?_
        refine z_lstore_n dX5_mix_40 (by decide) rfl ?_
        dsimp only [List.set]
        refine z_iinc dX5_mix_41 rfl (by omega) (by decide) rfl ?_
        dsimp only [List.set]
        refine z_goto 5 dX5_mix_44 (by decide) ?_
        exact ih'
  refine z_lload_n dX5_mix_0 rfl ?_
  refine z_lstore_n dX5_mix_1 (by decide) rfl ?_
  dsimp only [List.set]
  refine z_iconst dX5_mix_2 (by decide) ?_
  refine z_istore dX5_mix_3 (by decide) rfl ?_
  dsimp only [List.set]
  exact loop 4 0 (by omega)
theorem cm_X1_mix (hf : bkC mem bk) : CM X (0, 0) 0 mX1_mix G0 [vr 75, vl h] mem (pL G0 fun z m => z = mxF (flt 3 bk) (3 * 6) h ∧ m = mem) := by
  refine CM.of (by decide +kernel) 3 (Nat.le_of_ble_eq_true rfl) ?_
  show ZZ X (0, 0) 0 mX1_mix G0 0 [vr 75, vl h, vd, vd, vd, vd] [] mem _
  have loop : ∀ (d i : Nat), i + d = 6 → ZZ X (0, 0) 0 mX1_mix G0 5 [vr 75, vl h, vd, vl (mxF (flt 3 bk) (3 * i) h), vd, vi (i : Int)] [] mem (pL G0 fun z m => z = mxF (flt 3 bk) (3 * 6) h ∧ m = mem) := by
    intro d
    induction d with
    | zero =>
      intro i hi
      have : i = 6 := by omega
      subst this
      refine z_iload dX1_mix_5 rfl ?_
      refine z_bipush dX1_mix_7 (by decide) ?_
      refine z_icmp_ge 63 dX1_mix_9 (by decide) (fun h9 => ?_) (fun h9 => ?_)
      · refine z_lload_n dX1_mix_63 rfl ?_
        refine z_lret dX1_mix_64 rfl ?_
        exact ⟨rfl, _, rfl, rfl, rfl⟩
      · omega
    | succ d ih =>
      intro i hi
      have ih' := ih (i + 1) (by omega)
      have r0 : mem 76 (i : Int) = bk 0 i := hf 0 i (by decide) (by omega)
      have r1 : mem 77 (i : Int) = bk 1 i := hf 1 i (by decide) (by omega)
      have r2 : mem 78 (i : Int) = bk 2 i := hf 2 i (by decide) (by omega)
      have e : mxF (flt 3 bk) (3 * (i + 1)) h = (mxS (mxS (mxS (mxF (flt 3 bk) (3 * i) h) (bk 0 i)) (bk 1 i)) (bk 2 i)) := by
        rw [show 3 * (i + 1) = 3 * i + 3 by omega]
        rw [show mxF (flt 3 bk) (3 * i + 3) h = mxS (mxF (flt 3 bk) (3 * i + 2) h) (flt 3 bk ((3 * i + 2 : Nat) : Int)) from rfl, show mxF (flt 3 bk) (3 * i + 2) h = mxS (mxF (flt 3 bk) (3 * i + 1) h) (flt 3 bk ((3 * i + 1 : Nat) : Int)) from rfl, show mxF (flt 3 bk) (3 * i + 1) h = mxS (mxF (flt 3 bk) (3 * i + 0) h) (flt 3 bk ((3 * i + 0 : Nat) : Int)) from rfl]
        rw [flt_at (c := 3) (k := 2) (by decide), flt_at (c := 3) (k := 1) (by decide), flt_at (c := 3) (k := 0) (by decide)]
        rfl
      rw [e] at ih'
      refine z_iload dX1_mix_5 rfl ?_
      refine z_bipush dX1_mix_7 (by decide) ?_
      refine z_icmp_ge 63 dX1_mix_9 (by decide) (fun h9 => ?_) (fun h9 => ?_)
      · omega
      · refine z_ldc2 (z := 31) dX1_mix_12 kc_X1_31 (by decide) ?_
        refine z_lload_n dX1_mix_15 rfl ?_
        refine z_lmulw dX1_mix_16 ?_
        refine z_aload_n dX1_mix_17 rfl ?_
        refine z_getR (ty := .int) dX1_mix_18 fl_X1_9 (by first | rfl | assumption) rfl rfl ?_
        refine z_iload dX1_mix_21 rfl ?_
        refine z_iald dX1_mix_23 (by first | rfl | assumption) (by omega) (by omega) ?_
        rw [r0]
        refine z_i2l dX1_mix_24 ?_
        refine z_laddw dX1_mix_25 ?_
        refine z_lstore_n dX1_mix_26 (by decide) rfl ?_
        dsimp only [List.set]
        refine z_ldc2 (z := 31) dX1_mix_27 kc_X1_31 (by decide) ?_
        refine z_lload_n dX1_mix_30 rfl ?_
        refine z_lmulw dX1_mix_31 ?_
        refine z_aload_n dX1_mix_32 rfl ?_
        refine z_getR (ty := .int) dX1_mix_33 fl_X1_15 (by first | rfl | assumption) rfl rfl ?_
        refine z_iload dX1_mix_36 rfl ?_
        refine z_iald dX1_mix_38 (by first | rfl | assumption) (by omega) (by omega) ?_
        rw [r1]
        refine z_i2l dX1_mix_39 ?_
        refine z_laddw dX1_mix_40 ?_
        refine z_lstore_n dX1_mix_41 (by decide) rfl ?_
        dsimp only [List.set]
        refine z_ldc2 (z := 31) dX1_mix_42 kc_X1_31 (by decide) ?_
        refine z_lload_n dX1_mix_45 rfl ?_
        refine z_lmulw dX1_mix_46 ?_
        refine z_aload_n dX1_mix_47 rfl ?_
        refine z_getR (ty := .int) dX1_mix_48 fl_X1_18 (by first | rfl | assumption) rfl rfl ?_
        refine z_iload dX1_mix_51 rfl ?_
        refine z_iald dX1_mix_53 (by first | rfl | assumption) (by omega) (by omega) ?_
        rw [r2]
        refine z_i2l dX1_mix_54 ?_
        refine z_laddw dX1_mix_55 ?_
        refine z_lstore_n dX1_mix_56 (by decide) rfl ?_
        dsimp only [List.set]
        refine z_iinc dX1_mix_57 rfl (by omega) (by decide) rfl ?_
        dsimp only [List.set]
        refine z_goto 5 dX1_mix_60 (by decide) ?_
        exact ih'
  refine z_lload_n dX1_mix_0 rfl ?_
  refine z_lstore_n dX1_mix_1 (by decide) rfl ?_
  dsimp only [List.set]
  refine z_iconst dX1_mix_2 (by decide) ?_
  refine z_istore dX1_mix_3 (by decide) rfl ?_
  dsimp only [List.set]
  exact loop 6 0 (by omega)
theorem cm_X8_mixV {G : List GC} {o v : Nat} (hN : isN G o) (hv : natAt mem o v) : CM X (0, 0) 0 mX8_mix G [vr o, vl h] mem (pL G fun z m => (∃ n : Nat, isSz v n ∧ z = mxF (fun j => ((v / 1073741824 ^ j.toNat % 1073741824 : Nat) : Int)) n h) ∧ m = mem) := by
  obtain ⟨n, hs, hn, hz, hd⟩ := natAt_sz hv
  have hg1 := hN.1
  have hg2 := hN.2
  refine CM.of (by decide +kernel) 3 (Nat.le_of_ble_eq_true rfl) ?_
  show ZZ X (0, 0) 0 mX8_mix G 0 [vr o, vl h, vd, vd, vd, vd] [] mem _
  have loop : ∀ (d i : Nat), i + d = n → ZZ X (0, 0) 0 mX8_mix G 5 [vr o, vl h, vd, vl (mxF (fun j => ((v / 1073741824 ^ j.toNat % 1073741824 : Nat) : Int)) i h), vd, vi (i : Int)] [] mem (pL G fun z m => (∃ n : Nat, isSz v n ∧ z = mxF (fun j => ((v / 1073741824 ^ j.toNat % 1073741824 : Nat) : Int)) n h) ∧ m = mem) := by
    intro d
    induction d with
    | zero =>
      intro i hi
      have : i = n := by omega
      subst this
      refine z_iload dX8_mix_5 rfl ?_
      refine z_aload_n dX8_mix_7 rfl ?_
      refine z_gI 1 dX8_mix_8 fl_X8_13 (by first | rfl | assumption) rfl rfl ?_
      rw [hs]
      refine z_icmp_ge 35 dX8_mix_11 (by decide) (fun h11 => ?_) (fun h11 => ?_)
      · refine z_lload_n dX8_mix_35 rfl ?_
        refine z_lret dX8_mix_36 rfl ?_
        exact ⟨rfl, _, rfl, ⟨_, hz, rfl⟩, rfl⟩
      · omega
    | succ d ih =>
      intro i hi
      have ih' := ih (i + 1) (by omega)
      have r := hd i (by omega)
      rw [mxF_s, Int.toNat_natCast] at ih'
      refine z_iload dX8_mix_5 rfl ?_
      refine z_aload_n dX8_mix_7 rfl ?_
      refine z_gI 1 dX8_mix_8 fl_X8_13 (by first | rfl | assumption) rfl rfl ?_
      rw [hs]
      refine z_icmp_ge 35 dX8_mix_11 (by decide) (fun h11 => ?_) (fun h11 => ?_)
      · omega
      · refine z_ldc2 (z := 31) dX8_mix_14 kc_X8_58 (by decide) ?_
        refine z_lload_n dX8_mix_17 rfl ?_
        refine z_lmulw dX8_mix_18 ?_
        refine z_aload_n dX8_mix_19 rfl ?_
        refine z_getR (ty := .int) dX8_mix_20 fl_X8_9 (by first | rfl | assumption) rfl rfl ?_
        refine z_iload dX8_mix_23 rfl ?_
        refine z_iald dX8_mix_25 (by first | rfl | assumption) (by omega) (by omega) ?_
        rw [r]
        refine z_i2l dX8_mix_26 ?_
        refine z_laddw dX8_mix_27 ?_
        refine z_lstore_n dX8_mix_28 (by decide) rfl ?_
        dsimp only [List.set]
        refine z_iinc dX8_mix_29 rfl (by omega) (by decide) rfl ?_
        dsimp only [List.set]
        refine z_goto 5 dX8_mix_32 (by decide) ?_
        exact ih'
  refine z_lload_n dX8_mix_0 rfl ?_
  refine z_lstore_n dX8_mix_1 (by decide) rfl ?_
  dsimp only [List.set]
  refine z_iconst dX8_mix_2 (by decide) ?_
  refine z_istore dX8_mix_3 (by decide) rfl ?_
  dsimp only [List.set]
  exact loop n 0 (by omega)
end Mix
