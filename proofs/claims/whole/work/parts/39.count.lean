/-! ===== lost and count: both sides ===== -/
section OpsF
variable {X : Nat × (Int → Int)} {mem : Mem} {nf np nw : Nat} {fd pr fr bk : Nat → Nat → Int}
theorem lsN_take {p : Int} {f : Nat} (h : p = -1 ∨ p = (f : Int)) : lsN nf fd fr p (f + 1) = ((lsN nf fd fr p f).1 * fr 0 f + cntF fd (f : Int) nf * fr 1 f * (lsN nf fd fr p f).2, (lsN nf fd fr p f).2 * fr 0 f) := by
  show (if p = -1 ∨ p = (f : Int) then _ else _) = _
  rw [if_pos h]
theorem lsN_skip {p : Int} {f : Nat} (h : ¬ (p = -1 ∨ p = (f : Int))) : lsN nf fd fr p (f + 1) = lsN nf fd fr p f := by
  show (if p = -1 ∨ p = (f : Int) then _ else _) = _
  rw [if_neg h]
theorem cm_X5_lossAt {p : Int} (hf : finC mem nf fd) (hfr : frC mem fr) (hrr : frR fr) : CM X (0, 0) 3 mX5_lossAt G0 [vr 72, vi p, vr 1, vr 79] mem (pV G0 fun m => lowC m (lsN nf fd fr p 4).1 (lsN nf fd fr p 4).2 ∧ onF 79 mem m) := by
  refine CM.of (by decide +kernel) 5 (Nat.le_of_ble_eq_true rfl) ?_
  show ZZ X (0, 0) 3 mX5_lossAt G0 0 [vr 72, vi p, vr 1, vr 79, vd, vd, vd, vd, vd] [] mem _
  have loop : ∀ (d f : Nat), f + d = 4 → ZZ X (0, 0) 3 mX5_lossAt G0 9 [vr 72, vi p, vr 1, vr 79, vl (lsN nf fd fr p f).1, vd, vl (lsN nf fd fr p f).2, vd, vi (f : Int)] [] mem (pV G0 fun m => lowC m (lsN nf fd fr p 4).1 (lsN nf fd fr p 4).2 ∧ onF 79 mem m) := by
    intro d
    induction d with
    | zero =>
      intro f hi
      have : f = 4 := by omega
      subst this
      have bn := lsN_bn (p := p) (fd := fd) hf.1 hrr 4 (by decide)
      refine z_iload dX5_lossAt_9 rfl ?_
      refine z_iconst dX5_lossAt_11 (by decide) ?_
      refine z_icmp_ge 78 dX5_lossAt_12 (by decide) (fun h12 => ?_) (fun h12 => ?_)
      · refine z_aload_n dX5_lossAt_78 rfl ?_
        refine z_lload dX5_lossAt_79 rfl ?_
        refine z_lload dX5_lossAt_81 rfl ?_
        refine z_V2v dX5_lossAt_83 ok_X4_become lk_X5_30 (by first | rfl | assumption) rfl rfl (Nat.le_of_ble_eq_true rfl) (by decide) (cm_become79 (by omega) (by omega) (by omega) (by omega)) (fun m3 hm3 => ?_)
        refine z_vret dX5_lossAt_86 rfl ?_
        exact ⟨rfl, rfl, hm3⟩
      · omega
    | succ d ih =>
      intro f hi
      have hn := hf.1
      have r0 : mem 73 (f : Int) = fr 0 f := hfr 0 f (by decide) (by omega)
      have r1 : mem 74 (f : Int) = fr 1 f := hfr 1 f (by decide) (by omega)
      obtain ⟨b1, b2, b3⟩ := hrr f (by omega)
      have bn := lsN_bn (p := p) (fd := fd) hf.1 hrr f (by omega)
      have bc := cntF_bd (fd := fd) (f := (f : Int)) nf
      have m1 := mulB bn.1.1 (bn.2.2 (by omega)).1 (by omega : 0 ≤ fr 0 f) (by omega : fr 0 f ≤ 1000)
      have m2 := mulB bc.1 (by omega : cntF fd (f : Int) nf ≤ 60) (by omega : 0 ≤ fr 1 f) b3
      have m3 := mulB m2.1 m2.2 (by omega : 0 ≤ (lsN nf fd fr p f).2) (bn.2.2 (by omega)).2
      have m4 := mulB (by omega : 0 ≤ (lsN nf fd fr p f).2) (bn.2.2 (by omega)).2 (by omega : 0 ≤ fr 0 f) (by omega : fr 0 f ≤ 1000)
      have ih' := ih (f + 1) (by omega)
      refine z_iload dX5_lossAt_9 rfl ?_
      refine z_iconst dX5_lossAt_11 (by decide) ?_
      refine z_icmp_ge 78 dX5_lossAt_12 (by decide) (fun h12 => ?_) (fun h12 => ?_)
      · omega
      · refine z_iload_n dX5_lossAt_15 rfl ?_
        refine z_iconst dX5_lossAt_16 (by decide) ?_
        refine z_icmp_eq 26 dX5_lossAt_17 (by decide) (fun h17 => ?_) (fun h17 => ?_)
        · refine z_lload dX5_lossAt_26 rfl ?_
          refine z_aload_n dX5_lossAt_28 rfl ?_
          refine z_getR (ty := .int) dX5_lossAt_29 fl_X5_9 (by first | rfl | assumption) rfl rfl ?_
          refine z_iload dX5_lossAt_32 rfl ?_
          refine z_iald dX5_lossAt_34 (by first | rfl | assumption) (by omega) (by omega) ?_
          rw [r0]
          refine z_i2l dX5_lossAt_35 ?_
          refine z_lmul dX5_lossAt_36 (by omega) ?_
          refine z_aload_n dX5_lossAt_37 rfl ?_
          refine z_iload dX5_lossAt_38 rfl ?_
          refine z_V1i dX5_lossAt_40 ok_X3_foundAt lk_X5_24 (by first | rfl | assumption) rfl rfl (Nat.le_of_ble_eq_true rfl) (by decide) (cm_X3_foundAt hf) (fun z1 m1' hm1 => ?_)
          obtain ⟨rfl, rfl⟩ := hm1
          refine z_i2l dX5_lossAt_43 ?_
          refine z_aload_n dX5_lossAt_44 rfl ?_
          refine z_getR (ty := .int) dX5_lossAt_45 fl_X5_15 (by first | rfl | assumption) rfl rfl ?_
          refine z_iload dX5_lossAt_48 rfl ?_
          refine z_iald dX5_lossAt_50 (by first | rfl | assumption) (by omega) (by omega) ?_
          rw [r1]
          refine z_i2l dX5_lossAt_51 ?_
          refine z_lmul dX5_lossAt_52 (by omega) ?_
          refine z_lload dX5_lossAt_53 rfl ?_
          refine z_lmul dX5_lossAt_55 (by omega) ?_
          refine z_ladd dX5_lossAt_56 (by omega) ?_
          refine z_lstore dX5_lossAt_57 (by decide) rfl ?_
          dsimp only [List.set]
          refine z_lload dX5_lossAt_59 rfl ?_
          refine z_aload_n dX5_lossAt_61 rfl ?_
          refine z_getR (ty := .int) dX5_lossAt_62 fl_X5_9 (by first | rfl | assumption) rfl rfl ?_
          refine z_iload dX5_lossAt_65 rfl ?_
          refine z_iald dX5_lossAt_67 (by first | rfl | assumption) (by omega) (by omega) ?_
          rw [r0]
          refine z_i2l dX5_lossAt_68 ?_
          refine z_lmul dX5_lossAt_69 (by omega) ?_
          refine z_lstore dX5_lossAt_70 (by decide) rfl ?_
          dsimp only [List.set]
          refine z_iinc dX5_lossAt_72 rfl (by omega) (by decide) rfl ?_
          dsimp only [List.set]
          refine z_goto 9 dX5_lossAt_75 (by decide) ?_
          first | (rw [lsN_skip (by omega)] at ih'; exact ih') | (rw [lsN_take (by omega)] at ih'; exact ih')
        · refine z_iload_n dX5_lossAt_20 rfl ?_
          refine z_iload dX5_lossAt_21 rfl ?_
          refine z_icmp_ne 72 dX5_lossAt_23 (by decide) (fun h23 => ?_) (fun h23 => ?_)
          · refine z_iinc dX5_lossAt_72 rfl (by omega) (by decide) rfl ?_
            dsimp only [List.set]
            refine z_goto 9 dX5_lossAt_75 (by decide) ?_
            first | (rw [lsN_skip (by omega)] at ih'; exact ih') | (rw [lsN_take (by omega)] at ih'; exact ih')
          · refine z_lload dX5_lossAt_26 rfl ?_
            refine z_aload_n dX5_lossAt_28 rfl ?_
            refine z_getR (ty := .int) dX5_lossAt_29 fl_X5_9 (by first | rfl | assumption) rfl rfl ?_
            refine z_iload dX5_lossAt_32 rfl ?_
            refine z_iald dX5_lossAt_34 (by first | rfl | assumption) (by omega) (by omega) ?_
            rw [r0]
            refine z_i2l dX5_lossAt_35 ?_
            refine z_lmul dX5_lossAt_36 (by omega) ?_
            refine z_aload_n dX5_lossAt_37 rfl ?_
            refine z_iload dX5_lossAt_38 rfl ?_
            refine z_V1i dX5_lossAt_40 ok_X3_foundAt lk_X5_24 (by first | rfl | assumption) rfl rfl (Nat.le_of_ble_eq_true rfl) (by decide) (cm_X3_foundAt hf) (fun z1 m1' hm1 => ?_)
            obtain ⟨rfl, rfl⟩ := hm1
            refine z_i2l dX5_lossAt_43 ?_
            refine z_aload_n dX5_lossAt_44 rfl ?_
            refine z_getR (ty := .int) dX5_lossAt_45 fl_X5_15 (by first | rfl | assumption) rfl rfl ?_
            refine z_iload dX5_lossAt_48 rfl ?_
            refine z_iald dX5_lossAt_50 (by first | rfl | assumption) (by omega) (by omega) ?_
            rw [r1]
            refine z_i2l dX5_lossAt_51 ?_
            refine z_lmul dX5_lossAt_52 (by omega) ?_
            refine z_lload dX5_lossAt_53 rfl ?_
            refine z_lmul dX5_lossAt_55 (by omega) ?_
            refine z_ladd dX5_lossAt_56 (by omega) ?_
            refine z_lstore dX5_lossAt_57 (by decide) rfl ?_
            dsimp only [List.set]
            refine z_lload dX5_lossAt_59 rfl ?_
            refine z_aload_n dX5_lossAt_61 rfl ?_
            refine z_getR (ty := .int) dX5_lossAt_62 fl_X5_9 (by first | rfl | assumption) rfl rfl ?_
            refine z_iload dX5_lossAt_65 rfl ?_
            refine z_iald dX5_lossAt_67 (by first | rfl | assumption) (by omega) (by omega) ?_
            rw [r0]
            refine z_i2l dX5_lossAt_68 ?_
            refine z_lmul dX5_lossAt_69 (by omega) ?_
            refine z_lstore dX5_lossAt_70 (by decide) rfl ?_
            dsimp only [List.set]
            refine z_iinc dX5_lossAt_72 rfl (by omega) (by decide) rfl ?_
            dsimp only [List.set]
            refine z_goto 9 dX5_lossAt_75 (by decide) ?_
            first | (rw [lsN_skip (by omega)] at ih'; exact ih') | (rw [lsN_take (by omega)] at ih'; exact ih')
  refine z_lconst (z := 0) dX5_lossAt_0 rfl (by decide) ?_
  refine z_lstore dX5_lossAt_1 (by decide) rfl ?_
  dsimp only [List.set]
  refine z_lconst (z := 1) dX5_lossAt_3 rfl (by decide) ?_
  refine z_lstore dX5_lossAt_4 (by decide) rfl ?_
  dsimp only [List.set]
  refine z_iconst dX5_lossAt_6 (by decide) ?_
  refine z_istore dX5_lossAt_7 (by decide) rfl ?_
  dsimp only [List.set]
  exact loop 4 0 (by omega)
theorem cm_X11_lost {p : Int} (hf : finC mem nf fd) (hfr : frC mem fr) (hrr : frR fr) : CM X (0, 0) 4 mX11_lost G0 [vr 0, vi p] mem (pI G0 fun z m => (¬ (-1 ≤ p ∧ p ≤ 3) → z = -2 ∧ m = mem) ∧ (-1 ≤ p ∧ p ≤ 3 → z = 1 ∧ lowC m (lsN nf fd fr p 4).1 (lsN nf fd fr p 4).2 ∧ onF 79 mem m)) := by
  refine CM.of (by decide +kernel) 0 (Nat.le_of_ble_eq_true rfl) ?_
  show ZZ X (0, 0) 4 mX11_lost G0 0 [vr 0, vi p] [] mem _
  refine z_iload_n dX11_lost_0 rfl ?_
  refine z_iconst dX11_lost_1 (by decide) ?_
  refine z_iconst dX11_lost_2 (by decide) ?_
  refine z_S3i dX11_lost_3 ok_X11_within lk_X11_83 (Nat.le_of_ble_eq_true rfl) (by decide) (cm_X11_within) (fun z1 m1 hm1 => ?_)
  obtain ⟨hz1, rfl⟩ := hm1
  refine z_if_ne 12 dX11_lost_6 (by decide) (fun h6 => ?_) (fun h6 => ?_)
  · refine z_aload_n dX11_lost_12 rfl ?_
    refine z_getR (ty := .int) dX11_lost_13 fl_X11_61 (by first | rfl | assumption) rfl rfl ?_
    refine z_iload_n dX11_lost_16 rfl ?_
    refine z_aload_n dX11_lost_17 rfl ?_
    refine z_getR (ty := .int) dX11_lost_18 fl_X11_10 (by first | rfl | assumption) rfl rfl ?_
    refine z_aload_n dX11_lost_21 rfl ?_
    refine z_getR (ty := .int) dX11_lost_22 fl_X11_75 (by first | rfl | assumption) rfl rfl ?_
    refine z_V3v dX11_lost_25 ok_X5_lossAt lk_X11_230 (by first | rfl | assumption) rfl rfl (Nat.le_of_ble_eq_true rfl) (by decide) (cm_X5_lossAt hf hfr hrr) (fun m2 hm2 => ?_)
    refine z_iconst dX11_lost_28 (by decide) ?_
    refine z_iret dX11_lost_29 rfl ?_
    exact ⟨rfl, _, rfl, fun q => by omega, fun _ => ⟨rfl, hm2⟩⟩
  · refine z_bipush dX11_lost_9 (by decide) ?_
    refine z_iret dX11_lost_11 rfl ?_
    exact ⟨rfl, _, rfl, fun _ => ⟨rfl, rfl⟩, fun q => by omega⟩
theorem cm_X12_lost {p : Int} (hf : finM mem nf fd) (hfr : frM mem fr) (hrr : frR fr) : CM X (0, 0) 4 mX12_lost G0 [vr 88, vi p] mem (pI G0 fun z m => (¬ (-1 ≤ p ∧ p ≤ 3) → z = -2 ∧ m = mem) ∧ (-1 ≤ p ∧ p ≤ 3 → z = 1 ∧ lowM m (lsN nf fd fr p 4).1 (lsN nf fd fr p 4).2 ∧ on89 mem m)) := by
  have hs := hf.2.1
  have hn := hf.1
  refine CM.of (by decide +kernel) 8 (Nat.le_of_ble_eq_true rfl) ?_
  show ZZ X (0, 0) 4 mX12_lost G0 0 [vr 88, vi p, vd, vd, vd, vd, vd, vd, vd, vd] [] mem _
  have loop : -1 ≤ p ∧ p ≤ 3 → ∀ (d f : Nat) (u v w : VV), f + d = 4 → ZZ X (0, 0) 4 mX12_lost G0 25 [vr 88, vi p, vl (lsN nf fd fr p f).1, vd, vl (lsN nf fd fr p f).2, vd, vi (f : Int), u, v, w] [] mem (pI G0 fun z m => (¬ (-1 ≤ p ∧ p ≤ 3) → z = -2 ∧ m = mem) ∧ (-1 ≤ p ∧ p ≤ 3 → z = 1 ∧ lowM m (lsN nf fd fr p 4).1 (lsN nf fd fr p 4).2 ∧ on89 mem m)) := by
    intro hp d
    induction d with
    | zero =>
      intro f u v w hi
      have : f = 4 := by omega
      subst this
      have bn := lsN_bn (p := p) (fd := fd) hf.1 hrr 4 (by decide)
      refine z_iload dX12_lost_25 rfl ?_
      refine z_iconst dX12_lost_27 (by decide) ?_
      refine z_icmp_ge 148 dX12_lost_28 (by decide) (fun h28 => ?_) (fun h28 => ?_)
      · refine z_aload_n dX12_lost_148 rfl ?_
        refine z_lload_n dX12_lost_149 rfl ?_
        refine z_lload dX12_lost_150 rfl ?_
        refine z_V2i dX12_lost_152 ok_X12_tells lk_X12_281 (by first | rfl | assumption) rfl rfl (Nat.le_of_ble_eq_true rfl) (by decide) (cm_tellsI (by omega) (by omega) (by omega) (by omega)) (fun z3 m3 hm3 => ?_)
        refine z_iret dX12_lost_155 rfl ?_
        exact ⟨rfl, _, rfl, fun q => absurd hp q, fun _ => ⟨hm3.1, ⟨hm3.2.1, hm3.2.2.1⟩, hm3.2.2.2⟩⟩
      · omega
    | succ d ih =>
      intro f u v w hi
      have hn := hf.1
      have r0 : mem 103 (2 * (f : Int)) = fr 0 f := (congrArg (mem 103) (by omega)).trans (hfr 0 f (by decide) (by omega))
      have r1 : mem 103 (2 * (f : Int) + 1) = fr 1 f := hfr 1 f (by decide) (by omega)
      obtain ⟨b1, b2, b3⟩ := hrr f (by omega)
      have bn := lsN_bn (p := p) (fd := fd) hf.1 hrr f (by omega)
      have bc := cntF_bd (fd := fd) (f := (f : Int)) nf
      have m1 := mulB bn.1.1 (bn.2.2 (by omega)).1 (by omega : 0 ≤ fr 0 f) (by omega : fr 0 f ≤ 1000)
      have m2 := mulB bc.1 (by omega : cntF fd (f : Int) nf ≤ 60) (by omega : 0 ≤ fr 1 f) b3
      have m3 := mulB m2.1 m2.2 (by omega : 0 ≤ (lsN nf fd fr p f).2) (bn.2.2 (by omega)).2
      have m4 := mulB (by omega : 0 ≤ (lsN nf fd fr p f).2) (bn.2.2 (by omega)).2 (by omega : 0 ≤ fr 0 f) (by omega : fr 0 f ≤ 1000)
      have inner : ∀ (e i : Nat), i + e = nf → ZZ X (0, 0) 4 mX12_lost G0 37 [vr 88, vi p, vl (lsN nf fd fr p f).1, vd, vl (lsN nf fd fr p f).2, vd, vi (f : Int), vl (cntF fd (f : Int) i), vd, vi (i : Int)] [] mem (pI G0 fun z m => (¬ (-1 ≤ p ∧ p ≤ 3) → z = -2 ∧ m = mem) ∧ (-1 ≤ p ∧ p ≤ 3 → z = 1 ∧ lowM m (lsN nf fd fr p 4).1 (lsN nf fd fr p 4).2 ∧ on89 mem m)) := by
        intro e
        induction e with
        | zero =>
          intro i hi
          have : i = nf := by omega
          subst this
          refine z_iload dX12_lost_37 rfl ?_
          refine z_aload_n dX12_lost_39 rfl ?_
          refine z_gI 3 dX12_lost_40 fl_X12_116 (by first | rfl | assumption) rfl rfl ?_
          rw [hs]
          refine z_icmp_ge 84 dX12_lost_43 (by decide) (fun h43 => ?_) (fun h43 => ?_)
          · refine z_iload_n dX12_lost_84 rfl ?_
            refine z_iconst dX12_lost_85 (by decide) ?_
            refine z_icmp_eq 95 dX12_lost_86 (by decide) (fun h86 => ?_) (fun h86 => ?_)
            · refine z_lload_n dX12_lost_95 rfl ?_
              refine z_aload_n dX12_lost_96 rfl ?_
              refine z_getR (ty := .int) dX12_lost_97 fl_X12_53 (by first | rfl | assumption) rfl rfl ?_
              refine z_iconst dX12_lost_100 (by decide) ?_
              refine z_iload dX12_lost_101 rfl ?_
              refine z_imul dX12_lost_103 (by omega) ?_
              refine z_iald dX12_lost_104 (by first | rfl | assumption) (by omega) (by omega) ?_
              rw [r0]
              refine z_i2l dX12_lost_105 ?_
              refine z_lmul dX12_lost_106 (by omega) ?_
              refine z_lload dX12_lost_107 rfl ?_
              refine z_aload_n dX12_lost_109 rfl ?_
              refine z_getR (ty := .int) dX12_lost_110 fl_X12_53 (by first | rfl | assumption) rfl rfl ?_
              refine z_iconst dX12_lost_113 (by decide) ?_
              refine z_iload dX12_lost_114 rfl ?_
              refine z_imul dX12_lost_116 (by omega) ?_
              refine z_iconst dX12_lost_117 (by decide) ?_
              refine z_iadd dX12_lost_118 (by omega) ?_
              refine z_iald dX12_lost_119 (by first | rfl | assumption) (by omega) (by omega) ?_
              rw [r1]
              refine z_i2l dX12_lost_120 ?_
              refine z_lmul dX12_lost_121 (by omega) ?_
              refine z_lload dX12_lost_122 rfl ?_
              refine z_lmul dX12_lost_124 (by omega) ?_
              refine z_ladd dX12_lost_125 (by omega) ?_
              refine z_lstore_n dX12_lost_126 (by decide) rfl ?_
              dsimp only [List.set]
              refine z_lload dX12_lost_127 rfl ?_
              refine z_aload_n dX12_lost_129 rfl ?_
              refine z_getR (ty := .int) dX12_lost_130 fl_X12_53 (by first | rfl | assumption) rfl rfl ?_
              refine z_iconst dX12_lost_133 (by decide) ?_
              refine z_iload dX12_lost_134 rfl ?_
              refine z_imul dX12_lost_136 (by omega) ?_
              refine z_iald dX12_lost_137 (by first | rfl | assumption) (by omega) (by omega) ?_
              rw [r0]
              refine z_i2l dX12_lost_138 ?_
              refine z_lmul dX12_lost_139 (by omega) ?_
              refine z_lstore dX12_lost_140 (by decide) rfl ?_
              dsimp only [List.set]
              refine z_iinc dX12_lost_142 rfl (by omega) (by decide) rfl ?_
              dsimp only [List.set]
              refine z_goto 25 dX12_lost_145 (by decide) ?_
              have ih' := ih (f + 1) (vl (cntF fd (f : Int) i)) vd (vi (i : Int)) (by omega)
              first | (rw [lsN_skip (by omega)] at ih'; exact ih') | (rw [lsN_take (by omega)] at ih'; exact ih')
            · refine z_iload_n dX12_lost_89 rfl ?_
              refine z_iload dX12_lost_90 rfl ?_
              refine z_icmp_ne 142 dX12_lost_92 (by decide) (fun h92 => ?_) (fun h92 => ?_)
              · refine z_iinc dX12_lost_142 rfl (by omega) (by decide) rfl ?_
                dsimp only [List.set]
                refine z_goto 25 dX12_lost_145 (by decide) ?_
                have ih' := ih (f + 1) (vl (cntF fd (f : Int) i)) vd (vi (i : Int)) (by omega)
                first | (rw [lsN_skip (by omega)] at ih'; exact ih') | (rw [lsN_take (by omega)] at ih'; exact ih')
              · refine z_lload_n dX12_lost_95 rfl ?_
                refine z_aload_n dX12_lost_96 rfl ?_
                refine z_getR (ty := .int) dX12_lost_97 fl_X12_53 (by first | rfl | assumption) rfl rfl ?_
                refine z_iconst dX12_lost_100 (by decide) ?_
                refine z_iload dX12_lost_101 rfl ?_
                refine z_imul dX12_lost_103 (by omega) ?_
                refine z_iald dX12_lost_104 (by first | rfl | assumption) (by omega) (by omega) ?_
                rw [r0]
                refine z_i2l dX12_lost_105 ?_
                refine z_lmul dX12_lost_106 (by omega) ?_
                refine z_lload dX12_lost_107 rfl ?_
                refine z_aload_n dX12_lost_109 rfl ?_
                refine z_getR (ty := .int) dX12_lost_110 fl_X12_53 (by first | rfl | assumption) rfl rfl ?_
                refine z_iconst dX12_lost_113 (by decide) ?_
                refine z_iload dX12_lost_114 rfl ?_
                refine z_imul dX12_lost_116 (by omega) ?_
                refine z_iconst dX12_lost_117 (by decide) ?_
                refine z_iadd dX12_lost_118 (by omega) ?_
                refine z_iald dX12_lost_119 (by first | rfl | assumption) (by omega) (by omega) ?_
                rw [r1]
                refine z_i2l dX12_lost_120 ?_
                refine z_lmul dX12_lost_121 (by omega) ?_
                refine z_lload dX12_lost_122 rfl ?_
                refine z_lmul dX12_lost_124 (by omega) ?_
                refine z_ladd dX12_lost_125 (by omega) ?_
                refine z_lstore_n dX12_lost_126 (by decide) rfl ?_
                dsimp only [List.set]
                refine z_lload dX12_lost_127 rfl ?_
                refine z_aload_n dX12_lost_129 rfl ?_
                refine z_getR (ty := .int) dX12_lost_130 fl_X12_53 (by first | rfl | assumption) rfl rfl ?_
                refine z_iconst dX12_lost_133 (by decide) ?_
                refine z_iload dX12_lost_134 rfl ?_
                refine z_imul dX12_lost_136 (by omega) ?_
                refine z_iald dX12_lost_137 (by first | rfl | assumption) (by omega) (by omega) ?_
                rw [r0]
                refine z_i2l dX12_lost_138 ?_
                refine z_lmul dX12_lost_139 (by omega) ?_
                refine z_lstore dX12_lost_140 (by decide) rfl ?_
                dsimp only [List.set]
                refine z_iinc dX12_lost_142 rfl (by omega) (by decide) rfl ?_
                dsimp only [List.set]
                refine z_goto 25 dX12_lost_145 (by decide) ?_
                have ih' := ih (f + 1) (vl (cntF fd (f : Int) i)) vd (vi (i : Int)) (by omega)
                first | (rw [lsN_skip (by omega)] at ih'; exact ih') | (rw [lsN_take (by omega)] at ih'; exact ih')
          · omega
        | succ e ihe =>
          intro i hi
          have bi := cntF_bd (fd := fd) (f := (f : Int)) i
          have ih' := ihe (i + 1) (by omega)
          have e1 : cntF fd (f : Int) (i + 1) = cntF fd (f : Int) i + (if fd 4 i = (f : Int) ∧ fd 5 i = 0 then 1 else 0) := rfl
          refine z_iload dX12_lost_37 rfl ?_
          refine z_aload_n dX12_lost_39 rfl ?_
          refine z_gI 3 dX12_lost_40 fl_X12_116 (by first | rfl | assumption) rfl rfl ?_
          rw [hs]
          refine z_icmp_ge 84 dX12_lost_43 (by decide) (fun h43 => ?_) (fun h43 => ?_)
          · omega
          · refine z_lload dX12_lost_46 rfl ?_
            refine z_aload_n dX12_lost_48 rfl ?_
            refine z_iload dX12_lost_49 rfl ?_
            refine z_iconst dX12_lost_51 (by decide) ?_
            refine z_V2i dX12_lost_52 ok_X12_of lk_X12_122 (by first | rfl | assumption) rfl rfl (Nat.le_of_ble_eq_true rfl) (by decide) (cm_X12_of (i := i) (k := 4) hf (by omega) (by decide)) (fun z1 m1' hm1 => ?_)
            obtain ⟨rfl, rfl⟩ := hm1
            refine z_iload dX12_lost_55 rfl ?_
            refine z_icmp_ne 74 dX12_lost_57 (by decide) (fun h57 => ?_) (fun h57 => ?_)
            · refine z_lconst (z := 0) dX12_lost_74 rfl (by decide) ?_
              refine z_ladd dX12_lost_75 (by omega) ?_
              refine z_lstore dX12_lost_76 (by decide) rfl ?_
              dsimp only [List.set]
              refine z_iinc dX12_lost_78 rfl (by omega) (by decide) rfl ?_
              dsimp only [List.set]
              refine z_goto 37 dX12_lost_81 (by decide) ?_
              first | (rw [e1, if_pos (by omega)] at ih'; exact ih') | (rw [e1, if_neg (by omega)] at ih'; exact ih')
            · refine z_aload_n dX12_lost_60 rfl ?_
              refine z_iload dX12_lost_61 rfl ?_
              refine z_iconst dX12_lost_63 (by decide) ?_
              refine z_V2i dX12_lost_64 ok_X12_of lk_X12_122 (by first | rfl | assumption) rfl rfl (Nat.le_of_ble_eq_true rfl) (by decide) (cm_X12_of (i := i) (k := 5) hf (by omega) (by decide)) (fun z1 m1' hm1 => ?_)
              obtain ⟨rfl, rfl⟩ := hm1
              refine z_if_ne 74 dX12_lost_67 (by decide) (fun h67 => ?_) (fun h67 => ?_)
              · refine z_lconst (z := 0) dX12_lost_74 rfl (by decide) ?_
                refine z_ladd dX12_lost_75 (by omega) ?_
                refine z_lstore dX12_lost_76 (by decide) rfl ?_
                dsimp only [List.set]
                refine z_iinc dX12_lost_78 rfl (by omega) (by decide) rfl ?_
                dsimp only [List.set]
                refine z_goto 37 dX12_lost_81 (by decide) ?_
                first | (rw [e1, if_pos (by omega)] at ih'; exact ih') | (rw [e1, if_neg (by omega)] at ih'; exact ih')
              · refine z_lconst (z := 1) dX12_lost_70 rfl (by decide) ?_
                refine z_goto 75 dX12_lost_71 (by decide) ?_
                refine z_ladd dX12_lost_75 (by omega) ?_
                refine z_lstore dX12_lost_76 (by decide) rfl ?_
                dsimp only [List.set]
                refine z_iinc dX12_lost_78 rfl (by omega) (by decide) rfl ?_
                dsimp only [List.set]
                refine z_goto 37 dX12_lost_81 (by decide) ?_
                first | (rw [e1, if_pos (by omega)] at ih'; exact ih') | (rw [e1, if_neg (by omega)] at ih'; exact ih')
      refine z_iload dX12_lost_25 rfl ?_
      refine z_iconst dX12_lost_27 (by decide) ?_
      refine z_icmp_ge 148 dX12_lost_28 (by decide) (fun h28 => ?_) (fun h28 => ?_)
      · omega
      · refine z_lconst (z := 0) dX12_lost_31 rfl (by decide) ?_
        refine z_lstore dX12_lost_32 (by decide) rfl ?_
        dsimp only [List.set]
        refine z_iconst dX12_lost_34 (by decide) ?_
        refine z_istore dX12_lost_35 (by decide) rfl ?_
        dsimp only [List.set]
        exact inner nf 0 (by omega)
  refine z_iload_n dX12_lost_0 rfl ?_
  refine z_i2l dX12_lost_1 ?_
  refine z_ldc2 (z := -1) dX12_lost_2 kc_X12_108 (by decide) ?_
  refine z_ldc2 (z := 3) dX12_lost_5 kc_X12_114 (by decide) ?_
  refine z_S3i dX12_lost_8 ok_X12_in lk_X12_97 (Nat.le_of_ble_eq_true rfl) (by decide) (cm_X12_in) (fun z1 m1 hm1 => ?_)
  obtain ⟨hz1, rfl⟩ := hm1
  refine z_if_ne 17 dX12_lost_11 (by decide) (fun h11 => ?_) (fun h11 => ?_)
  · refine z_lconst (z := 0) dX12_lost_17 rfl (by decide) ?_
    refine z_lstore_n dX12_lost_18 (by decide) rfl ?_
    dsimp only [List.set]
    refine z_lconst (z := 1) dX12_lost_19 rfl (by decide) ?_
    refine z_lstore dX12_lost_20 (by decide) rfl ?_
    dsimp only [List.set]
    refine z_iconst dX12_lost_22 (by decide) ?_
    refine z_istore dX12_lost_23 (by decide) rfl ?_
    dsimp only [List.set]
    exact loop (by omega) 4 0 _ _ _ (by omega)
  · refine z_bipush dX12_lost_14 (by decide) ?_
    refine z_iret dX12_lost_16 rfl ?_
    exact ⟨rfl, _, rfl, fun _ => ⟨rfl, rfl⟩, fun q => by omega⟩
theorem cm_X12_countOf {wh : Int} (hf : finM mem nf fd) (hr : finR nf fd) (hb : bkM mem bk) (hp : prM mem np pr) (hw : mem 88 13 = (nw : Int)) (h0 : 0 ≤ wh) (h4 : wh ≤ 4) : CM X (0, 0) 1 mX12_countOf G0 [vr 88, vi wh] mem (pI G0 fun z m => z = cntA nf nw np fd bk wh ∧ m = mem) := by
  have hs := hf.2.1
  have hn := hf.1
  have hp1 := hp.2.1
  refine CM.of (by decide +kernel) 2 (Nat.le_of_ble_eq_true rfl) ?_
  show ZZ X (0, 0) 1 mX12_countOf G0 0 [vr 88, vi wh, vd, vd] [] mem _
  have loop : ∀ (d i : Nat), i + d = 60 → ZZ X (0, 0) 1 mX12_countOf G0 4 [vr 88, vi wh, vi (coA nf fd bk wh i), vi (i : Int)] [] mem (pI G0 fun z m => z = cntA nf nw np fd bk wh ∧ m = mem) := by
    intro d
    induction d with
    | zero =>
      intro i hi
      have : i = 60 := by omega
      subst this
      unfold cntA
      refine z_iload_n dX12_countOf_4 rfl ?_
      refine z_bipush dX12_countOf_5 (by decide) ?_
      refine z_icmp_ge 69 dX12_countOf_7 (by decide) (fun h7 => ?_) (fun h7 => ?_)
      · refine z_iload_n dX12_countOf_69 rfl ?_
        refine z_if_ne 80 dX12_countOf_70 (by decide) (fun h70 => ?_) (fun h70 => ?_)
        · refine z_iload_n dX12_countOf_80 rfl ?_
          refine z_iconst dX12_countOf_81 (by decide) ?_
          refine z_icmp_ne 92 dX12_countOf_82 (by decide) (fun h82 => ?_) (fun h82 => ?_)
          · refine z_iload_n dX12_countOf_92 rfl ?_
            refine z_iconst dX12_countOf_93 (by decide) ?_
            refine z_icmp_ne 104 dX12_countOf_94 (by decide) (fun h94 => ?_) (fun h94 => ?_)
            · refine z_iload_n dX12_countOf_104 rfl ?_
              refine z_iret dX12_countOf_105 rfl ?_
              first | exact ⟨rfl, _, rfl, by rw [if_pos (by omega)], rfl⟩ | exact ⟨rfl, _, rfl, by rw [if_neg (by omega), if_neg (by omega), if_pos (by omega)], rfl⟩ | exact ⟨rfl, _, rfl, by rw [if_neg (by omega), if_neg (by omega), if_neg (by omega), if_pos (by omega)], rfl⟩ | skip
              all_goals
                obtain rfl | rfl : wh = 1 ∨ wh = 4 := by omega
                · exact ⟨rfl, _, rfl, by rw [if_neg (by omega), if_pos rfl, coA1, Nat.min_eq_right hn], rfl⟩
                · exact ⟨rfl, _, rfl, by rw [if_neg (by omega), if_neg (by omega), if_neg (by omega), if_neg (by omega), if_pos rfl, coA4]; rfl, rfl⟩
            · refine z_aload_n dX12_countOf_97 rfl ?_
              refine z_gI 29 dX12_countOf_98 fl_X12_285 (by first | rfl | assumption) rfl rfl ?_
              rw [hp1]
              refine z_goto 105 dX12_countOf_101 (by decide) ?_
              refine z_iret dX12_countOf_105 rfl ?_
              first | exact ⟨rfl, _, rfl, by rw [if_pos (by omega)], rfl⟩ | exact ⟨rfl, _, rfl, by rw [if_neg (by omega), if_neg (by omega), if_pos (by omega)], rfl⟩ | exact ⟨rfl, _, rfl, by rw [if_neg (by omega), if_neg (by omega), if_neg (by omega), if_pos (by omega)], rfl⟩ | skip
              all_goals
                obtain rfl | rfl : wh = 1 ∨ wh = 4 := by omega
                · exact ⟨rfl, _, rfl, by rw [if_neg (by omega), if_pos rfl, coA1, Nat.min_eq_right hn], rfl⟩
                · exact ⟨rfl, _, rfl, by rw [if_neg (by omega), if_neg (by omega), if_neg (by omega), if_neg (by omega), if_pos rfl, coA4]; rfl, rfl⟩
          · refine z_aload_n dX12_countOf_85 rfl ?_
            refine z_gI 13 dX12_countOf_86 fl_X12_223 (by first | rfl | assumption) rfl rfl ?_
            rw [hw]
            refine z_goto 105 dX12_countOf_89 (by decide) ?_
            refine z_iret dX12_countOf_105 rfl ?_
            first | exact ⟨rfl, _, rfl, by rw [if_pos (by omega)], rfl⟩ | exact ⟨rfl, _, rfl, by rw [if_neg (by omega), if_neg (by omega), if_pos (by omega)], rfl⟩ | exact ⟨rfl, _, rfl, by rw [if_neg (by omega), if_neg (by omega), if_neg (by omega), if_pos (by omega)], rfl⟩ | skip
            all_goals
              obtain rfl | rfl : wh = 1 ∨ wh = 4 := by omega
              · exact ⟨rfl, _, rfl, by rw [if_neg (by omega), if_pos rfl, coA1, Nat.min_eq_right hn], rfl⟩
              · exact ⟨rfl, _, rfl, by rw [if_neg (by omega), if_neg (by omega), if_neg (by omega), if_neg (by omega), if_pos rfl, coA4]; rfl, rfl⟩
        · refine z_aload_n dX12_countOf_73 rfl ?_
          refine z_gI 3 dX12_countOf_74 fl_X12_116 (by first | rfl | assumption) rfl rfl ?_
          rw [hs]
          refine z_goto 105 dX12_countOf_77 (by decide) ?_
          refine z_iret dX12_countOf_105 rfl ?_
          first | exact ⟨rfl, _, rfl, by rw [if_pos (by omega)], rfl⟩ | exact ⟨rfl, _, rfl, by rw [if_neg (by omega), if_neg (by omega), if_pos (by omega)], rfl⟩ | exact ⟨rfl, _, rfl, by rw [if_neg (by omega), if_neg (by omega), if_neg (by omega), if_pos (by omega)], rfl⟩ | skip
          all_goals
            obtain rfl | rfl : wh = 1 ∨ wh = 4 := by omega
            · exact ⟨rfl, _, rfl, by rw [if_neg (by omega), if_pos rfl, coA1, Nat.min_eq_right hn], rfl⟩
            · exact ⟨rfl, _, rfl, by rw [if_neg (by omega), if_neg (by omega), if_neg (by omega), if_neg (by omega), if_pos rfl, coA4]; rfl, rfl⟩
      · omega
    | succ d ih =>
      intro i hi
      have bi := coA_bd (bk := bk) (wh := wh) hr i
      have ih' := ih (i + 1) (by omega)
      have e1 : coA nf fd bk wh (i + 1) = coA nf fd bk wh i + (if wh = 1 ∧ i < nf then fd 5 i else if wh = 4 ∧ i < 6 ∧ ¬ bk 0 i = -1 then 1 else 0) := rfl
      refine z_iload_n dX12_countOf_4 rfl ?_
      refine z_bipush dX12_countOf_5 (by decide) ?_
      refine z_icmp_ge 69 dX12_countOf_7 (by decide) (fun h7 => ?_) (fun h7 => ?_)
      · omega
      · refine z_iload_n dX12_countOf_10 rfl ?_
        refine z_iload_n dX12_countOf_11 rfl ?_
        refine z_iconst dX12_countOf_12 (by decide) ?_
        refine z_icmp_ne 33 dX12_countOf_13 (by decide) (fun h13 => ?_) (fun h13 => ?_)
        · refine z_iload_n dX12_countOf_33 rfl ?_
          refine z_iconst dX12_countOf_34 (by decide) ?_
          refine z_icmp_ne 60 dX12_countOf_35 (by decide) (fun h35 => ?_) (fun h35 => ?_)
          · refine z_iconst dX12_countOf_60 (by decide) ?_
            refine z_iadd dX12_countOf_61 (by omega) ?_
            refine z_istore_n dX12_countOf_62 (by decide) rfl ?_
            dsimp only [List.set]
            refine z_iinc dX12_countOf_63 rfl (by omega) (by decide) rfl ?_
            dsimp only [List.set]
            refine z_goto 4 dX12_countOf_66 (by decide) ?_
            first | (rw [e1, if_pos (by omega)] at ih'; exact ih') | (rw [e1, if_neg (by omega), if_pos (by omega)] at ih'; exact ih') | (rw [e1, if_neg (by omega), if_neg (by omega)] at ih'; exact ih')
          · refine z_iload_n dX12_countOf_38 rfl ?_
            refine z_bipush dX12_countOf_39 (by decide) ?_
            refine z_icmp_ge 60 dX12_countOf_41 (by decide) (fun h41 => ?_) (fun h41 => ?_)
            · refine z_iconst dX12_countOf_60 (by decide) ?_
              refine z_iadd dX12_countOf_61 (by omega) ?_
              refine z_istore_n dX12_countOf_62 (by decide) rfl ?_
              dsimp only [List.set]
              refine z_iinc dX12_countOf_63 rfl (by omega) (by decide) rfl ?_
              dsimp only [List.set]
              refine z_goto 4 dX12_countOf_66 (by decide) ?_
              first | (rw [e1, if_pos (by omega)] at ih'; exact ih') | (rw [e1, if_neg (by omega), if_pos (by omega)] at ih'; exact ih') | (rw [e1, if_neg (by omega), if_neg (by omega)] at ih'; exact ih')
            · have r0 : mem 32 (3 * (i : Int)) = bk 0 i := (congrArg (mem 32) (by omega)).trans (hb 0 i (by decide) (by omega))
              refine z_aload_n dX12_countOf_44 rfl ?_
              refine z_getR (ty := .int) dX12_countOf_45 fl_X12_56 (by first | rfl | assumption) rfl rfl ?_
              refine z_iconst dX12_countOf_48 (by decide) ?_
              refine z_iload_n dX12_countOf_49 rfl ?_
              refine z_imul dX12_countOf_50 (by omega) ?_
              refine z_iald dX12_countOf_51 (by first | rfl | assumption) (by omega) (by omega) ?_
              rw [r0]
              refine z_iconst dX12_countOf_52 (by decide) ?_
              refine z_icmp_eq 60 dX12_countOf_53 (by decide) (fun h53 => ?_) (fun h53 => ?_)
              · refine z_iconst dX12_countOf_60 (by decide) ?_
                refine z_iadd dX12_countOf_61 (by omega) ?_
                refine z_istore_n dX12_countOf_62 (by decide) rfl ?_
                dsimp only [List.set]
                refine z_iinc dX12_countOf_63 rfl (by omega) (by decide) rfl ?_
                dsimp only [List.set]
                refine z_goto 4 dX12_countOf_66 (by decide) ?_
                first | (rw [e1, if_pos (by omega)] at ih'; exact ih') | (rw [e1, if_neg (by omega), if_pos (by omega)] at ih'; exact ih') | (rw [e1, if_neg (by omega), if_neg (by omega)] at ih'; exact ih')
              · refine z_iconst dX12_countOf_56 (by decide) ?_
                refine z_goto 61 dX12_countOf_57 (by decide) ?_
                refine z_iadd dX12_countOf_61 (by omega) ?_
                refine z_istore_n dX12_countOf_62 (by decide) rfl ?_
                dsimp only [List.set]
                refine z_iinc dX12_countOf_63 rfl (by omega) (by decide) rfl ?_
                dsimp only [List.set]
                refine z_goto 4 dX12_countOf_66 (by decide) ?_
                first | (rw [e1, if_pos (by omega)] at ih'; exact ih') | (rw [e1, if_neg (by omega), if_pos (by omega)] at ih'; exact ih') | (rw [e1, if_neg (by omega), if_neg (by omega)] at ih'; exact ih')
        · refine z_iload_n dX12_countOf_16 rfl ?_
          refine z_aload_n dX12_countOf_17 rfl ?_
          refine z_gI 3 dX12_countOf_18 fl_X12_116 (by first | rfl | assumption) rfl rfl ?_
          rw [hs]
          refine z_icmp_ge 33 dX12_countOf_21 (by decide) (fun h21 => ?_) (fun h21 => ?_)
          · refine z_iload_n dX12_countOf_33 rfl ?_
            refine z_iconst dX12_countOf_34 (by decide) ?_
            refine z_icmp_ne 60 dX12_countOf_35 (by decide) (fun h35 => ?_) (fun h35 => ?_)
            · refine z_iconst dX12_countOf_60 (by decide) ?_
              refine z_iadd dX12_countOf_61 (by omega) ?_
              refine z_istore_n dX12_countOf_62 (by decide) rfl ?_
              dsimp only [List.set]
              refine z_iinc dX12_countOf_63 rfl (by omega) (by decide) rfl ?_
              dsimp only [List.set]
              refine z_goto 4 dX12_countOf_66 (by decide) ?_
              first | (rw [e1, if_pos (by omega)] at ih'; exact ih') | (rw [e1, if_neg (by omega), if_pos (by omega)] at ih'; exact ih') | (rw [e1, if_neg (by omega), if_neg (by omega)] at ih'; exact ih')
            · refine z_iload_n dX12_countOf_38 rfl ?_
              refine z_bipush dX12_countOf_39 (by decide) ?_
              refine z_icmp_ge 60 dX12_countOf_41 (by decide) (fun h41 => ?_) (fun h41 => ?_)
              · refine z_iconst dX12_countOf_60 (by decide) ?_
                refine z_iadd dX12_countOf_61 (by omega) ?_
                refine z_istore_n dX12_countOf_62 (by decide) rfl ?_
                dsimp only [List.set]
                refine z_iinc dX12_countOf_63 rfl (by omega) (by decide) rfl ?_
                dsimp only [List.set]
                refine z_goto 4 dX12_countOf_66 (by decide) ?_
                first | (rw [e1, if_pos (by omega)] at ih'; exact ih') | (rw [e1, if_neg (by omega), if_pos (by omega)] at ih'; exact ih') | (rw [e1, if_neg (by omega), if_neg (by omega)] at ih'; exact ih')
              · have r0 : mem 32 (3 * (i : Int)) = bk 0 i := (congrArg (mem 32) (by omega)).trans (hb 0 i (by decide) (by omega))
                refine z_aload_n dX12_countOf_44 rfl ?_
                refine z_getR (ty := .int) dX12_countOf_45 fl_X12_56 (by first | rfl | assumption) rfl rfl ?_
                refine z_iconst dX12_countOf_48 (by decide) ?_
                refine z_iload_n dX12_countOf_49 rfl ?_
                refine z_imul dX12_countOf_50 (by omega) ?_
                refine z_iald dX12_countOf_51 (by first | rfl | assumption) (by omega) (by omega) ?_
                rw [r0]
                refine z_iconst dX12_countOf_52 (by decide) ?_
                refine z_icmp_eq 60 dX12_countOf_53 (by decide) (fun h53 => ?_) (fun h53 => ?_)
                · refine z_iconst dX12_countOf_60 (by decide) ?_
                  refine z_iadd dX12_countOf_61 (by omega) ?_
                  refine z_istore_n dX12_countOf_62 (by decide) rfl ?_
                  dsimp only [List.set]
                  refine z_iinc dX12_countOf_63 rfl (by omega) (by decide) rfl ?_
                  dsimp only [List.set]
                  refine z_goto 4 dX12_countOf_66 (by decide) ?_
                  first | (rw [e1, if_pos (by omega)] at ih'; exact ih') | (rw [e1, if_neg (by omega), if_pos (by omega)] at ih'; exact ih') | (rw [e1, if_neg (by omega), if_neg (by omega)] at ih'; exact ih')
                · refine z_iconst dX12_countOf_56 (by decide) ?_
                  refine z_goto 61 dX12_countOf_57 (by decide) ?_
                  refine z_iadd dX12_countOf_61 (by omega) ?_
                  refine z_istore_n dX12_countOf_62 (by decide) rfl ?_
                  dsimp only [List.set]
                  refine z_iinc dX12_countOf_63 rfl (by omega) (by decide) rfl ?_
                  dsimp only [List.set]
                  refine z_goto 4 dX12_countOf_66 (by decide) ?_
                  first | (rw [e1, if_pos (by omega)] at ih'; exact ih') | (rw [e1, if_neg (by omega), if_pos (by omega)] at ih'; exact ih') | (rw [e1, if_neg (by omega), if_neg (by omega)] at ih'; exact ih')
          · have b5 := (hr i (by omega)).2.2.2.2.2
            refine z_aload_n dX12_countOf_24 rfl ?_
            refine z_iload_n dX12_countOf_25 rfl ?_
            refine z_iconst dX12_countOf_26 (by decide) ?_
            refine z_V2i dX12_countOf_27 ok_X12_of lk_X12_122 (by first | rfl | assumption) rfl rfl (Nat.le_of_ble_eq_true rfl) (by decide) (cm_X12_of (i := i) (k := 5) hf (by omega) (by decide)) (fun z1 m1' hm1 => ?_)
            obtain ⟨rfl, rfl⟩ := hm1
            refine z_goto 61 dX12_countOf_30 (by decide) ?_
            refine z_iadd dX12_countOf_61 (by omega) ?_
            refine z_istore_n dX12_countOf_62 (by decide) rfl ?_
            dsimp only [List.set]
            refine z_iinc dX12_countOf_63 rfl (by omega) (by decide) rfl ?_
            dsimp only [List.set]
            refine z_goto 4 dX12_countOf_66 (by decide) ?_
            first | (rw [e1, if_pos (by omega)] at ih'; exact ih') | (rw [e1, if_neg (by omega), if_pos (by omega)] at ih'; exact ih') | (rw [e1, if_neg (by omega), if_neg (by omega)] at ih'; exact ih')
  refine z_iconst dX12_countOf_0 (by decide) ?_
  refine z_istore_n dX12_countOf_1 (by decide) rfl ?_
  dsimp only [List.set]
  refine z_iconst dX12_countOf_2 (by decide) ?_
  refine z_istore_n dX12_countOf_3 (by decide) rfl ?_
  dsimp only [List.set]
  exact loop 60 0 (by omega)
theorem cm_X12_count {wh : Int} (hf : finM mem nf fd) (hr : finR nf fd) (hb : bkM mem bk) (hp : prM mem np pr) (hw : mem 88 13 = (nw : Int)) : CM X (0, 0) 2 mX12_count G0 [vr 88, vi wh] mem (pI G0 fun z m => z = cntA nf nw np fd bk wh ∧ m = mem) := by
  refine CM.of (by decide +kernel) 0 (Nat.le_of_ble_eq_true rfl) ?_
  show ZZ X (0, 0) 2 mX12_count G0 0 [vr 88, vi wh] [] mem _
  refine z_iload_n dX12_count_0 rfl ?_
  refine z_i2l dX12_count_1 ?_
  refine z_lconst (z := 0) dX12_count_2 rfl (by decide) ?_
  refine z_ldc2 (z := 4) dX12_count_3 kc_X12_218 (by decide) ?_
  refine z_S3i dX12_count_6 ok_X12_in lk_X12_97 (Nat.le_of_ble_eq_true rfl) (by decide) (cm_X12_in) (fun z1 m1 hm1 => ?_)
  obtain ⟨hz1, rfl⟩ := hm1
  refine z_if_eq 20 dX12_count_9 (by decide) (fun h9 => ?_) (fun h9 => ?_)
  · refine z_bipush dX12_count_20 (by decide) ?_
    refine z_iret dX12_count_22 rfl ?_
    first | exact ⟨rfl, _, rfl, hm2⟩ | exact ⟨rfl, _, rfl, by unfold cntA; rw [if_neg (by omega), if_neg (by omega), if_neg (by omega), if_neg (by omega), if_neg (by omega)], rfl⟩
  · refine z_aload_n dX12_count_12 rfl ?_
    refine z_iload_n dX12_count_13 rfl ?_
    refine z_V1i dX12_count_14 ok_X12_countOf lk_X12_304 (by first | rfl | assumption) rfl rfl (Nat.le_of_ble_eq_true rfl) (by decide) (cm_X12_countOf hf hr hb hp hw (by omega) (by omega)) (fun z2 m2 hm2 => ?_)
    refine z_goto 22 dX12_count_17 (by decide) ?_
    refine z_iret dX12_count_22 rfl ?_
    first | exact ⟨rfl, _, rfl, hm2⟩ | exact ⟨rfl, _, rfl, by unfold cntA; rw [if_neg (by omega), if_neg (by omega), if_neg (by omega), if_neg (by omega), if_neg (by omega)], rfl⟩
theorem cm_X11_count {wh : Int} (hf : finC mem nf fd) (hr : finR nf fd) (hb : bkC mem bk) (hp : prC mem np pr) (hw : mem 22 4 = (nw : Int)) : CM X (0, 0) 2 mX11_count G0 [vr 0, vi wh] mem (pI G0 fun z m => z = cntA nf nw np fd bk wh ∧ m = mem) := by
  have hs := hf.2.1
  have hp1 := hp.2.1
  unfold cntA
  refine CM.of (by decide +kernel) 0 (Nat.le_of_ble_eq_true rfl) ?_
  show ZZ X (0, 0) 2 mX11_count G0 0 [vr 0, vi wh] [] mem _
  refine z_iload_n dX11_count_0 rfl ?_
  by_cases q : wh < 0 ∨ 4 < wh
  · refine z_tableOut 76 dX11_count_1 q (by decide) ?_
    refine z_bipush dX11_count_76 (by decide) ?_
    refine z_iret dX11_count_78 rfl ?_
    exact ⟨rfl, _, rfl, by rw [if_neg (by omega), if_neg (by omega), if_neg (by omega), if_neg (by omega), if_neg (by omega)], rfl⟩
  · obtain rfl | rfl | rfl | rfl | rfl : wh = 0 ∨ wh = 1 ∨ wh = 2 ∨ wh = 3 ∨ wh = 4 := by omega
    · refine z_tableIn 36 dX11_count_1 (by decide) (by decide) rfl (by decide) ?_
      refine z_aload_n dX11_count_36 rfl ?_
      refine z_getR (ty := .int) dX11_count_37 fl_X11_10 (by first | rfl | assumption) rfl rfl ?_
      refine z_gI 6 dX11_count_40 fl_X11_91 (by first | rfl | assumption) rfl rfl ?_
      rw [hs]
      refine z_iret dX11_count_43 rfl ?_
      exact ⟨rfl, _, rfl, rfl, rfl⟩
    · refine z_tableIn 44 dX11_count_1 (by decide) (by decide) rfl (by decide) ?_
      refine z_aload_n dX11_count_44 rfl ?_
      refine z_getR (ty := .int) dX11_count_45 fl_X11_10 (by first | rfl | assumption) rfl rfl ?_
      refine z_V0i dX11_count_48 ok_X3_allDoubted lk_X11_261 (by first | rfl | assumption) rfl rfl (Nat.le_of_ble_eq_true rfl) (by decide) (cm_X3_allDoubted hf hr) (fun z1 m1 hm1 => ?_)
      refine z_iret dX11_count_51 rfl ?_
      exact ⟨rfl, _, rfl, hm1⟩
    · refine z_tableIn 52 dX11_count_1 (by decide) (by decide) rfl (by decide) ?_
      refine z_aload_n dX11_count_52 rfl ?_
      refine z_getR (ty := .int) dX11_count_53 fl_X11_40 (by first | rfl | assumption) rfl rfl ?_
      refine z_gI 4 dX11_count_56 fl_X11_264 (by first | rfl | assumption) rfl rfl ?_
      rw [hw]
      refine z_iret dX11_count_59 rfl ?_
      exact ⟨rfl, _, rfl, rfl, rfl⟩
    · refine z_tableIn 60 dX11_count_1 (by decide) (by decide) rfl (by decide) ?_
      refine z_aload_n dX11_count_60 rfl ?_
      refine z_getR (ty := .int) dX11_count_61 fl_X11_54 (by first | rfl | assumption) rfl rfl ?_
      refine z_gI 3 dX11_count_64 fl_X11_265 (by first | rfl | assumption) rfl rfl ?_
      rw [hp1]
      refine z_iret dX11_count_67 rfl ?_
      exact ⟨rfl, _, rfl, rfl, rfl⟩
    · refine z_tableIn 68 dX11_count_1 (by decide) (by decide) rfl (by decide) ?_
      refine z_aload_n dX11_count_68 rfl ?_
      refine z_getR (ty := .int) dX11_count_69 fl_X11_68 (by first | rfl | assumption) rfl rfl ?_
      refine z_V0i dX11_count_72 ok_X1_written lk_X11_266 (by first | rfl | assumption) rfl rfl (Nat.le_of_ble_eq_true rfl) (by decide) (cm_X1_written hb) (fun z1 m1 hm1 => ?_)
      refine z_iret dX11_count_75 rfl ?_
      exact ⟨rfl, _, rfl, hm1⟩
end OpsF
