theorem bT.no {z : Int} {P : Prop} (h : bT z P) (hz : z = 0) : ¬ P := by
  rcases h with ⟨a, -⟩ | ⟨-, b⟩
  · omega
  · exact b
theorem bT.yes {z : Int} {P : Prop} (h : bT z P) (hz : ¬ z = 0) : P := by
  rcases h with ⟨-, b⟩ | ⟨a, -⟩
  · exact b
  · omega
theorem bT.val {z : Int} {P : Prop} (h : bT z P) : z = 0 ∨ z = 1 := by omega
def stM (L : List Int) : Nat → Nat
  | 0 => 0
  | j + 1 => Nat.gcd (stM L j) (L.getD (j + 1) 0 - L.getD j 0).toNat
def stC (L : List Int) : Nat → Nat
  | 0 => 0
  | j + 1 => Nat.gcd (L.getD (j + 1) 0 - L.getD 0 0).toNat (stC L j)
theorem st_eq {L : List Int} (hs : srt L) : ∀ j : Nat, j < L.length → stC L j = stM L j ∧ stM L j ∣ (L.getD j 0 - L.getD 0 0).toNat
  | 0, _ => ⟨rfl, by simp [stM]⟩
  | j + 1, h => by
    obtain ⟨e, d⟩ := st_eq hs j (by omega)
    have h1 := hs j (j + 1) (by omega) h
    have h0 : L.getD 0 0 ≤ L.getD j 0 := by
      by_cases q : j = 0
      · subst q; omega
      · have := hs 0 j (by omega) (by omega); omega
    have hsum : (L.getD (j + 1) 0 - L.getD 0 0).toNat = (L.getD (j + 1) 0 - L.getD j 0).toNat + (L.getD j 0 - L.getD 0 0).toNat := by omega
    have key : Nat.gcd (stM L j) (L.getD (j + 1) 0 - L.getD 0 0).toNat = Nat.gcd (stM L j) (L.getD (j + 1) 0 - L.getD j 0).toNat := by
      rw [hsum]
      obtain ⟨c, hc⟩ := d
      rw [hc, Nat.gcd_add_mul_left_right]
    refine ⟨?_, ?_⟩
    · show Nat.gcd _ (stC L j) = Nat.gcd (stM L j) _
      rw [e, Nat.gcd_comm, key]
    · show Nat.gcd (stM L j) _ ∣ _
      rw [← key]
      exact Nat.gcd_dvd_right _ _
def stepA (L : List Int) : Nat := stM L (L.length - 1)
theorem stepA_C {L : List Int} (hs : srt L) : stC L (L.length - 1) = stepA L := by
  by_cases q : L.length = 0
  · rw [stepA, q]; rfl
  · exact (st_eq hs _ (by omega)).1
theorem stM_le {L : List Int} (hr : ∀ y ∈ L, 0 ≤ y ∧ y ≤ 9999) (hs : srt L) : ∀ j : Nat, j < L.length → stM L j ≤ 9999
  | 0, _ => by simp [stM]
  | j + 1, h => by
    have h1 := hs j (j + 1) (by omega) h
    have a := hr _ (getD_mem h)
    have b := hr _ (getD_mem (show j < L.length by omega))
    have := Nat.gcd_le_right (n := (L.getD (j + 1) 0 - L.getD j 0).toNat) (stM L j) (by omega)
    show Nat.gcd _ _ ≤ _
    omega
def bo (step : Int) : Nat → Int
  | 0 => 0
  | s + 1 => if step % ((s + 1 : Nat) : Int) = 0 then iorV (bo step s) (ishlV 1 ((s + 1 : Nat) : Int)) else bo step s
theorem ior0 {x : Int} (hx : i32 x) : iorV x 0 = x := by
  unfold iorV
  rw [show Int32.ofInt 0 = 0 from rfl, Int32.or_zero, ti32 hx]
theorem bo_ok (step : Int) : ∀ s, i32 (bo step s)
  | 0 => by show i32 0; decide
  | s + 1 => by
    unfold bo
    split
    · exact oi32 _
    · exact bo_ok step s
def fitP (L : List Int) (f s : Int) : Prop := ∀ i : Nat, i < L.length → f ≤ L.getD i 0 ∧ (L.getD i 0 - f) % s = 0
def numB (L : List Int) (wh : Int) : Int := if wh = 0 then (L.length : Int) else if wh = 1 then (stepA L : Int) else bo (stepA L : Int) 9
section Numb
variable {X : Nat × (Int → Int)} {mem : Mem} {nf : Nat} {fd : Nat → Nat → Int} {L : List Int}
theorem cm_X6_commonStep (hL : marksAt mem L) (hs : srt L) (hr : ∀ y ∈ L, 0 ≤ y ∧ y ≤ 9999) : CM X (0, 0) 1 mX6_commonStep G0 [vr 8] mem (pI G0 fun z m => z = (stepA L : Int) ∧ m = mem) := by
  obtain ⟨hsz, hlen, hrow⟩ := hL
  have hle : ∀ j : Nat, j < L.length → stC L j ≤ 9999 := fun j hj => by rw [(st_eq hs j hj).1]; exact stM_le hr hs j hj
  refine CM.of (by decide +kernel) 3 (Nat.le_of_ble_eq_true rfl) ?_
  show ZZ X (0, 0) 1 mX6_commonStep G0 0 [vr 8, vd, vd, vd] [] mem _
  have loop : ∀ (k j : Nat), k + (j + 1) = L.length → ZZ X (0, 0) 1 mX6_commonStep G0 4 [vr 8, vl (stC L j : Int), vd, vi ((j + 1 : Nat) : Int)] [] mem (pI G0 fun z m => z = (stepA L : Int) ∧ m = mem) := by
    intro k
    induction k with
    | zero =>
      intro j hk
      have hj : j = L.length - 1 := by omega
      have := hle j (by omega)
      refine z_iload_n dX6_commonStep_4 rfl ?_
      refine z_aload_n dX6_commonStep_5 rfl ?_
      refine z_gI 1 dX6_commonStep_6 fl_X6_17 (by first | rfl | assumption) rfl rfl ?_
      rw [hsz]
      refine z_icmp_ge 37 dX6_commonStep_9 (by decide) (fun h9 => ?_) (fun h9 => ?_)
      · refine z_lload_n dX6_commonStep_37 rfl ?_
        refine z_l2i dX6_commonStep_38 (by omega) ?_
        refine z_iret dX6_commonStep_39 rfl ?_
        exact ⟨rfl, _, rfl, by rw [← stepA_C hs, hj], rfl⟩
      · omega
    | succ k ih =>
      intro j hk
      have h0 := hr _ (getD_mem (show 0 < L.length by omega))
      have h1 := hr _ (getD_mem (show j + 1 < L.length by omega))
      have h2 := hs 0 (j + 1) (by omega) (by omega)
      have := hle j (by omega)
      refine z_iload_n dX6_commonStep_4 rfl ?_
      refine z_aload_n dX6_commonStep_5 rfl ?_
      refine z_gI 1 dX6_commonStep_6 fl_X6_17 (by first | rfl | assumption) rfl rfl ?_
      rw [hsz]
      refine z_icmp_ge 37 dX6_commonStep_9 (by decide) (fun h9 => ?_) (fun h9 => ?_)
      · omega
      · refine z_aload_n dX6_commonStep_12 rfl ?_
        refine z_getR (ty := .int) dX6_commonStep_13 fl_X6_11 (by first | rfl | assumption) rfl rfl ?_
        refine z_iload_n dX6_commonStep_16 rfl ?_
        refine z_iald dX6_commonStep_17 (by first | rfl | assumption) (by omega) (by omega) ?_
        rw [hrow (j + 1) (by omega)]
        refine z_aload_n dX6_commonStep_18 rfl ?_
        refine z_getR (ty := .int) dX6_commonStep_19 fl_X6_11 (by first | rfl | assumption) rfl rfl ?_
        refine z_iconst dX6_commonStep_22 (by decide) ?_
        refine z_iald dX6_commonStep_23 (by first | rfl | assumption) (by omega) (by omega) ?_
        rw [show mem 9 0 = L.getD 0 0 from hrow 0 (by omega)]
        refine z_isub dX6_commonStep_24 (by omega) ?_
        refine z_i2l dX6_commonStep_25 ?_
        rw [show L.getD (j + 1) 0 - L.getD 0 0 = (((L.getD (j + 1) 0 - L.getD 0 0).toNat : Nat) : Int) by omega]
        refine z_lload_n dX6_commonStep_26 rfl ?_
        refine z_S2l dX6_commonStep_27 ok_X11_commonMeasure lk_X6_21 (Nat.le_of_ble_eq_true rfl) (by decide) (cm_X11_commonMeasure (by omega) (by omega)) (fun z m1 hm1 => ?_)
        obtain ⟨rfl, rfl⟩ := hm1
        refine z_lstore_n dX6_commonStep_30 (by decide) rfl ?_
        dsimp only [List.set]
        refine z_iinc dX6_commonStep_31 rfl (by omega) (by decide) rfl ?_
        dsimp only [List.set]
        refine z_goto 4 dX6_commonStep_34 (by decide) ?_
        exact ih (j + 1) (by omega)
  by_cases q : L.length = 0
  · refine z_lconst (z := 0) dX6_commonStep_0 rfl (by decide) ?_
    refine z_lstore_n dX6_commonStep_1 (by decide) rfl ?_
    dsimp only [List.set]
    refine z_iconst dX6_commonStep_2 (by decide) ?_
    refine z_istore_n dX6_commonStep_3 (by decide) rfl ?_
    dsimp only [List.set]
    refine z_iload_n dX6_commonStep_4 rfl ?_
    refine z_aload_n dX6_commonStep_5 rfl ?_
    refine z_gI 1 dX6_commonStep_6 fl_X6_17 (by first | rfl | assumption) rfl rfl ?_
    rw [hsz]
    refine z_icmp_ge 37 dX6_commonStep_9 (by decide) (fun h9 => ?_) (fun h9 => ?_)
    · refine z_lload_n dX6_commonStep_37 rfl ?_
      refine z_l2i dX6_commonStep_38 (by omega) ?_
      refine z_iret dX6_commonStep_39 rfl ?_
      exact ⟨rfl, _, rfl, by rw [stepA, q]; rfl, rfl⟩
    · omega
  · refine z_lconst (z := 0) dX6_commonStep_0 rfl (by decide) ?_
    refine z_lstore_n dX6_commonStep_1 (by decide) rfl ?_
    dsimp only [List.set]
    refine z_iconst dX6_commonStep_2 (by decide) ?_
    refine z_istore_n dX6_commonStep_3 (by decide) rfl ?_
    dsimp only [List.set]
    exact loop (L.length - 1) 0 (by omega)
theorem cm_X11_stepsOf {step : Nat} (hst : step ≤ 9999) {G : List GC} : CM X (0, 0) 0 mX11_stepsOf G [vi (step : Int)] mem (pI G fun z m => z = bo (step : Int) 9 ∧ m = mem) := by
  refine CM.of (by decide +kernel) 2 (Nat.le_of_ble_eq_true rfl) ?_
  show ZZ X (0, 0) 0 mX11_stepsOf G 0 [vi (step : Int), vd, vd] [] mem _
  have loop : ∀ (k s : Nat), k + s = 9 → ZZ X (0, 0) 0 mX11_stepsOf G 4 [vi (step : Int), vi (bo (step : Int) s), vi ((s + 1 : Nat) : Int)] [] mem (pI G fun z m => z = bo (step : Int) 9 ∧ m = mem) := by
    intro k
    induction k with
    | zero =>
      intro s hk
      have hs9 : s = 9 := by omega
      subst hs9
      refine z_iload_n dX11_stepsOf_4 rfl ?_
      refine z_bipush dX11_stepsOf_5 (by decide) ?_
      refine z_icmp_gt 28 dX11_stepsOf_7 (by decide) (fun h7 => ?_) (fun h7 => ?_)
      · refine z_iload_n dX11_stepsOf_28 rfl ?_
        refine z_iret dX11_stepsOf_29 rfl ?_
        exact ⟨rfl, _, rfl, rfl, rfl⟩
      · omega
    | succ k ih =>
      intro s hk
      have nx : ∀ v : Int, v = bo (step : Int) (s + 1) → ZZ X (0, 0) 0 mX11_stepsOf G 22 [vi (step : Int), vi v, vi ((s + 1 : Nat) : Int)] [] mem (pI G fun z m => z = bo (step : Int) 9 ∧ m = mem) := by
        intro v hv
        subst hv
        refine z_iinc dX11_stepsOf_22 rfl (by omega) (by decide) rfl ?_
        dsimp only [List.set]
        refine z_goto 4 dX11_stepsOf_25 (by decide) ?_
        exact ih (s + 1) (by omega)
      refine z_iload_n dX11_stepsOf_4 rfl ?_
      refine z_bipush dX11_stepsOf_5 (by decide) ?_
      refine z_icmp_gt 28 dX11_stepsOf_7 (by decide) (fun h7 => ?_) (fun h7 => ?_)
      · omega
      · refine z_iload_n dX11_stepsOf_10 rfl ?_
        refine z_iload_n dX11_stepsOf_11 rfl ?_
        refine z_iremp dX11_stepsOf_12 (by omega) (by omega) ?_
        refine z_if_ne 22 dX11_stepsOf_13 (by decide) (fun h13 => ?_) (fun h13 => ?_)
        · exact nx _ (if_neg h13).symm
        · refine z_iload_n dX11_stepsOf_16 rfl ?_
          refine z_iconst dX11_stepsOf_17 (by decide) ?_
          refine z_iload_n dX11_stepsOf_18 rfl ?_
          refine z_ishl dX11_stepsOf_19 ?_
          refine z_ior dX11_stepsOf_20 ?_
          refine z_istore_n dX11_stepsOf_21 (by decide) rfl ?_
          dsimp only [List.set]
          exact nx _ (if_pos h13).symm
  refine z_iconst dX11_stepsOf_0 (by decide) ?_
  refine z_istore_n dX11_stepsOf_1 (by decide) rfl ?_
  dsimp only [List.set]
  refine z_iconst dX11_stepsOf_2 (by decide) ?_
  refine z_istore_n dX11_stepsOf_3 (by decide) rfl ?_
  dsimp only [List.set]
  exact loop 9 0 (by omega)
theorem cm_X12_numbersOf {mk wh : Int} (hf : finM mem nf fd) (hfr : finR nf fd) : CM X (0, 0) 3 mX12_numbersOf G0 [vr 88, vi mk, vi wh] mem (pI G0 fun z m => z = numB (gatL fd mk (-1) nf) wh ∧ onNm mem m) := by
  refine CM.of (by decide +kernel) 3 (Nat.le_of_ble_eq_true rfl) ?_
  show ZZ X (0, 0) 3 mX12_numbersOf G0 0 [vr 88, vi mk, vi wh, vd, vd, vd] [] mem _
  have hs := gatL_srt fd mk (-1) nf
  have hr := gatL_rng (mk := mk) (wo := -1) hfr
  have hlen60 := Nat.le_trans (gatL_len fd mk (-1) nf) hf.1
  generalize hLe : gatL fd mk (-1) nf = L at hs hr hlen60 ⊢
  have hle : ∀ j : Nat, j < L.length → stM L j ≤ 9999 := fun j hj => stM_le hr hs j hj
  have hleA : stepA L ≤ 9999 := by
    by_cases q : L.length = 0
    · rw [stepA, q]; simp [stM]
    · exact hle _ (by omega)
  have bits : ∀ (k s : Nat) (m : Mem), k + s = 9 → onNm mem m → ¬ wh = 0 → ¬ wh = 1 → ZZ X (0, 0) 3 mX12_numbersOf G0 70 [vr 88, vi mk, vi wh, vi (stepA L : Int), vi (bo (stepA L : Int) s), vi ((s + 1 : Nat) : Int)] [] m (pI G0 fun z m => z = numB L wh ∧ onNm mem m) := by
    intro k
    induction k with
    | zero =>
      intro s m hk hon h1 h2
      have hs9 : s = 9 := by omega
      subst hs9
      refine z_iload dX12_numbersOf_70 rfl ?_
      refine z_bipush dX12_numbersOf_72 (by decide) ?_
      refine z_icmp_ge 103 dX12_numbersOf_74 (by decide) (fun h74 => ?_) (fun h74 => ?_)
      · refine z_iload dX12_numbersOf_103 rfl ?_
        refine z_iret dX12_numbersOf_105 rfl ?_
        exact ⟨rfl, _, rfl, by unfold numB; rw [if_neg h1, if_neg h2], hon⟩
      · omega
    | succ k ih =>
      intro s m hk hon h1 h2
      have nx : ∀ v : Int, iorV (bo (stepA L : Int) s) v = bo (stepA L : Int) (s + 1) → ZZ X (0, 0) 3 mX12_numbersOf G0 94 [vr 88, vi mk, vi wh, vi (stepA L : Int), vi (bo (stepA L : Int) s), vi ((s + 1 : Nat) : Int)] [vi v, vi (bo (stepA L : Int) s)] m (pI G0 fun z m => z = numB L wh ∧ onNm mem m) := by
        intro v hv
        refine z_ior dX12_numbersOf_94 ?_
        rw [hv]
        refine z_istore dX12_numbersOf_95 (by decide) rfl ?_
        dsimp only [List.set]
        refine z_iinc dX12_numbersOf_97 rfl (by omega) (by decide) rfl ?_
        dsimp only [List.set]
        refine z_goto 70 dX12_numbersOf_100 (by decide) ?_
        exact ih (s + 1) m (by omega) hon h1 h2
      refine z_iload dX12_numbersOf_70 rfl ?_
      refine z_bipush dX12_numbersOf_72 (by decide) ?_
      refine z_icmp_ge 103 dX12_numbersOf_74 (by decide) (fun h74 => ?_) (fun h74 => ?_)
      · omega
      · refine z_iload dX12_numbersOf_77 rfl ?_
        refine z_iload_n dX12_numbersOf_79 rfl ?_
        refine z_iload dX12_numbersOf_80 rfl ?_
        refine z_iremp dX12_numbersOf_82 (by omega) (by omega) ?_
        refine z_if_ne 93 dX12_numbersOf_83 (by decide) (fun h83 => ?_) (fun h83 => ?_)
        · refine z_iconst dX12_numbersOf_93 (by decide) ?_
          exact nx 0 (by rw [ior0 (bo_ok _ _)]; exact (if_neg h83).symm)
        · refine z_iconst dX12_numbersOf_86 (by decide) ?_
          refine z_iload dX12_numbersOf_87 rfl ?_
          refine z_ishl dX12_numbersOf_89 ?_
          refine z_goto 94 dX12_numbersOf_90 (by decide) ?_
          exact nx _ (if_pos h83).symm
  have gl : ∀ (k j : Nat) (m : Mem), k + (j + 1) = L.length → numsAt m L → onNm mem m → ¬ wh = 0 → ZZ X (0, 0) 3 mX12_numbersOf G0 20 [vr 88, vi mk, vi wh, vi (stM L j : Int), vi ((j + 1 : Nat) : Int), vd] [] m (pI G0 fun z m => z = numB L wh ∧ onNm mem m) := by
    intro k
    induction k with
    | zero =>
      intro j m hk hm hon h1
      have hj : j = L.length - 1 := by omega
      have hst : stM L j = stepA L := by rw [stepA, hj]
      rw [hst]
      refine z_iload dX12_numbersOf_20 rfl ?_
      refine z_aload_n dX12_numbersOf_22 rfl ?_
      refine z_gI 6 dX12_numbersOf_23 fl_X12_125 (by first | rfl | assumption) rfl rfl ?_
      rw [hm.1]
      refine z_icmp_ge 57 dX12_numbersOf_26 (by decide) (fun h26 => ?_) (fun h26 => ?_)
      · refine z_iload_n dX12_numbersOf_57 rfl ?_
        refine z_iconst dX12_numbersOf_58 (by decide) ?_
        refine z_icmp_ne 64 dX12_numbersOf_59 (by decide) (fun h59 => ?_) (fun h59 => ?_)
        · refine z_iconst dX12_numbersOf_64 (by decide) ?_
          refine z_istore dX12_numbersOf_65 (by decide) rfl ?_
          dsimp only [List.set]
          refine z_iconst dX12_numbersOf_67 (by decide) ?_
          refine z_istore dX12_numbersOf_68 (by decide) rfl ?_
          dsimp only [List.set]
          exact bits 9 0 m (by omega) hon h1 h59
        · refine z_iload_n dX12_numbersOf_62 rfl ?_
          refine z_iret dX12_numbersOf_63 rfl ?_
          exact ⟨rfl, _, rfl, by unfold numB; rw [if_neg h1, if_pos h59], hon⟩
      · omega
    | succ k ih =>
      intro j m hk hm hon h1
      have a := hr _ (getD_mem (show j < L.length by omega))
      have b := hr _ (getD_mem (show j + 1 < L.length by omega))
      have h2 := hs j (j + 1) (by omega) (by omega)
      have := hle j (by omega)
      refine z_iload dX12_numbersOf_20 rfl ?_
      refine z_aload_n dX12_numbersOf_22 rfl ?_
      refine z_gI 6 dX12_numbersOf_23 fl_X12_125 (by first | rfl | assumption) rfl rfl ?_
      rw [hm.1]
      refine z_icmp_ge 57 dX12_numbersOf_26 (by decide) (fun h26 => ?_) (fun h26 => ?_)
      · omega
      · refine z_iload_n dX12_numbersOf_29 rfl ?_
        refine z_aload_n dX12_numbersOf_30 rfl ?_
        refine z_getR (ty := .int) dX12_numbersOf_31 fl_X12_19 (by first | rfl | assumption) rfl rfl ?_
        refine z_iload dX12_numbersOf_34 rfl ?_
        refine z_iald dX12_numbersOf_36 (by first | rfl | assumption) (by omega) (by omega) ?_
        rw [hm.2.2 (j + 1) (by omega)]
        refine z_aload_n dX12_numbersOf_37 rfl ?_
        refine z_getR (ty := .int) dX12_numbersOf_38 fl_X12_19 (by first | rfl | assumption) rfl rfl ?_
        refine z_iload dX12_numbersOf_41 rfl ?_
        refine z_iconst dX12_numbersOf_43 (by decide) ?_
        refine z_isub dX12_numbersOf_44 (by omega) ?_
        rw [show ((j + 1 : Nat) : Int) - 1 = (j : Int) by omega]
        refine z_iald dX12_numbersOf_45 (by first | rfl | assumption) (by omega) (by omega) ?_
        rw [hm.2.2 j (by omega)]
        refine z_isub dX12_numbersOf_46 (by omega) ?_
        rw [show L.getD (j + 1) 0 - L.getD j 0 = (((L.getD (j + 1) 0 - L.getD j 0).toNat : Nat) : Int) by omega]
        refine z_S2i dX12_numbersOf_47 ok_X12_divisor lk_X12_135 (Nat.le_of_ble_eq_true rfl) (by decide) (cm_X12_divisor (by omega) (by omega)) (fun z m1 hm1 => ?_)
        obtain ⟨rfl, rfl⟩ := hm1
        refine z_istore_n dX12_numbersOf_50 (by decide) rfl ?_
        dsimp only [List.set]
        refine z_iinc dX12_numbersOf_51 rfl (by omega) (by decide) rfl ?_
        dsimp only [List.set]
        refine z_goto 20 dX12_numbersOf_54 (by decide) ?_
        exact ih (j + 1) _ (by omega) hm hon h1
  refine z_aload_n dX12_numbersOf_0 rfl ?_
  refine z_iload_n dX12_numbersOf_1 rfl ?_
  refine z_iconst dX12_numbersOf_2 (by decide) ?_
  refine z_V2v dX12_numbersOf_3 ok_X12_finds0 lk_X12_132 (by first | rfl | assumption) rfl rfl (Nat.le_of_ble_eq_true rfl) (by decide) (cm_X12_finds0 hf) (fun m1 hm1 => ?_)
  obtain ⟨l1, l2⟩ := hm1
  rw [hLe] at l1
  refine z_iload_n dX12_numbersOf_6 rfl ?_
  refine z_if_ne 15 dX12_numbersOf_7 (by decide) (fun h7 => ?_) (fun h7 => ?_)
  · refine z_iconst dX12_numbersOf_15 (by decide) ?_
    refine z_istore_n dX12_numbersOf_16 (by decide) rfl ?_
    dsimp only [List.set]
    refine z_iconst dX12_numbersOf_17 (by decide) ?_
    refine z_istore dX12_numbersOf_18 (by decide) rfl ?_
    dsimp only [List.set]
    by_cases q : L.length = 0
    · have hst : stepA L = 0 := by rw [stepA, q]; rfl
      refine z_iload dX12_numbersOf_20 rfl ?_
      refine z_aload_n dX12_numbersOf_22 rfl ?_
      refine z_gI 6 dX12_numbersOf_23 fl_X12_125 (by first | rfl | assumption) rfl rfl ?_
      rw [l1.1]
      refine z_icmp_ge 57 dX12_numbersOf_26 (by decide) (fun h26 => ?_) (fun h26 => ?_)
      · refine z_iload_n dX12_numbersOf_57 rfl ?_
        refine z_iconst dX12_numbersOf_58 (by decide) ?_
        refine z_icmp_ne 64 dX12_numbersOf_59 (by decide) (fun h59 => ?_) (fun h59 => ?_)
        · refine z_iconst dX12_numbersOf_64 (by decide) ?_
          refine z_istore dX12_numbersOf_65 (by decide) rfl ?_
          dsimp only [List.set]
          refine z_iconst dX12_numbersOf_67 (by decide) ?_
          refine z_istore dX12_numbersOf_68 (by decide) rfl ?_
          dsimp only [List.set]
          have hb := bits 9 0 m1 (by omega) l2 h7 h59
          rw [hst] at hb
          exact hb
        · refine z_iload_n dX12_numbersOf_62 rfl ?_
          refine z_iret dX12_numbersOf_63 rfl ?_
          exact ⟨rfl, _, rfl, by unfold numB; rw [if_neg h7, if_pos h59, hst]; rfl, l2⟩
      · omega
    · exact gl (L.length - 1) 0 m1 (by omega) l1 l2 h7
  · refine z_aload_n dX12_numbersOf_10 rfl ?_
    refine z_gI 6 dX12_numbersOf_11 fl_X12_125 (by first | rfl | assumption) rfl rfl ?_
    rw [l1.1]
    refine z_iret dX12_numbersOf_14 rfl ?_
    exact ⟨rfl, _, rfl, by unfold numB; rw [if_pos h7], l2⟩
theorem cm_X6_suit {f s : Int} (hL : marksAt mem L) (hr : ∀ y ∈ L, 0 ≤ y ∧ y ≤ 9999) (hs0 : 0 < s) (hf0 : 0 ≤ f) (hf9 : f ≤ 9999) : CM X (0, 0) 0 mX6_suit G0 [vr 8, vi f, vi s] mem (pI G0 fun z m => bT z (fitP L f s) ∧ m = mem) := by
  obtain ⟨hsz, hlen, hrow⟩ := hL
  refine CM.of (by decide +kernel) 1 (Nat.le_of_ble_eq_true rfl) ?_
  show ZZ X (0, 0) 0 mX6_suit G0 0 [vr 8, vi f, vi s, vd] [] mem _
  have loop : ∀ (k i : Nat), k + i = L.length → (∀ j : Nat, j < i → f ≤ L.getD j 0 ∧ (L.getD j 0 - f) % s = 0) → ZZ X (0, 0) 0 mX6_suit G0 2 [vr 8, vi f, vi s, vi (i : Int)] [] mem (pI G0 fun z m => bT z (fitP L f s) ∧ m = mem) := by
    intro k
    induction k with
    | zero =>
      intro i hk hlo
      refine z_iload_n dX6_suit_2 rfl ?_
      refine z_aload_n dX6_suit_3 rfl ?_
      refine z_gI 1 dX6_suit_4 fl_X6_17 (by first | rfl | assumption) rfl rfl ?_
      rw [hsz]
      refine z_icmp_ge 45 dX6_suit_7 (by decide) (fun h7 => ?_) (fun h7 => ?_)
      · refine z_iconst dX6_suit_45 (by decide) ?_
        refine z_zret dX6_suit_46 rfl (by first | exact Or.inl rfl | exact Or.inr rfl | assumption | (split <;> simp) | omega) ?_
        exact ⟨rfl, _, rfl, Or.inl ⟨rfl, fun j hj => hlo j (by omega)⟩, rfl⟩
      · omega
    | succ k ih =>
      intro i hk hlo
      have a := hr _ (getD_mem (show i < L.length by omega))
      refine z_iload_n dX6_suit_2 rfl ?_
      refine z_aload_n dX6_suit_3 rfl ?_
      refine z_gI 1 dX6_suit_4 fl_X6_17 (by first | rfl | assumption) rfl rfl ?_
      rw [hsz]
      refine z_icmp_ge 45 dX6_suit_7 (by decide) (fun h7 => ?_) (fun h7 => ?_)
      · omega
      · refine z_iload_n dX6_suit_10 rfl ?_
        refine z_if_le 37 dX6_suit_11 (by decide) (fun h11 => ?_) (fun h11 => ?_)
        · omega
        · refine z_aload_n dX6_suit_14 rfl ?_
          refine z_getR (ty := .int) dX6_suit_15 fl_X6_11 (by first | rfl | assumption) rfl rfl ?_
          refine z_iload_n dX6_suit_18 rfl ?_
          refine z_iald dX6_suit_19 (by first | rfl | assumption) (by omega) (by omega) ?_
          rw [hrow i (by omega)]
          refine z_iload_n dX6_suit_20 rfl ?_
          refine z_icmp_lt 37 dX6_suit_21 (by decide) (fun h21 => ?_) (fun h21 => ?_)
          · refine z_iconst dX6_suit_37 (by decide) ?_
            refine z_zret dX6_suit_38 rfl (by first | exact Or.inl rfl | exact Or.inr rfl | assumption | (split <;> simp) | omega) ?_
            refine ⟨rfl, _, rfl, Or.inr ⟨rfl, fun q => ?_⟩, rfl⟩
            have := q i (by omega)
            omega
          · refine z_aload_n dX6_suit_24 rfl ?_
            refine z_getR (ty := .int) dX6_suit_25 fl_X6_11 (by first | rfl | assumption) rfl rfl ?_
            refine z_iload_n dX6_suit_28 rfl ?_
            refine z_iald dX6_suit_29 (by first | rfl | assumption) (by omega) (by omega) ?_
            rw [hrow i (by omega)]
            refine z_iload_n dX6_suit_30 rfl ?_
            refine z_isub dX6_suit_31 (by omega) ?_
            refine z_iload_n dX6_suit_32 rfl ?_
            refine z_iremp dX6_suit_33 (by omega) (by omega) ?_
            refine z_if_eq 39 dX6_suit_34 (by decide) (fun h34 => ?_) (fun h34 => ?_)
            · refine z_iinc dX6_suit_39 rfl (by omega) (by decide) rfl ?_
              dsimp only [List.set]
              refine z_goto 2 dX6_suit_42 (by decide) ?_
              exact ih (i + 1) (by omega) (fun j hj => by by_cases e : j = i; subst e; exact ⟨by omega, h34⟩; exact hlo j (by omega))
            · refine z_iconst dX6_suit_37 (by decide) ?_
              refine z_zret dX6_suit_38 rfl (by first | exact Or.inl rfl | exact Or.inr rfl | assumption | (split <;> simp) | omega) ?_
              refine ⟨rfl, _, rfl, Or.inr ⟨rfl, fun q => ?_⟩, rfl⟩
              have := q i (by omega)
              omega
  refine z_iconst dX6_suit_0 (by decide) ?_
  refine z_istore_n dX6_suit_1 (by decide) rfl ?_
  dsimp only [List.set]
  exact loop L.length 0 (by omega) (fun j hj => by omega)
theorem cm_X12_fitsNow {f s : Int} (hL : numsAt mem L) (hr : ∀ y ∈ L, 0 ≤ y ∧ y ≤ 9999) (hs0 : 0 < s) (hf0 : 0 ≤ f) (hf9 : f ≤ 9999) : CM X (0, 0) 0 mX12_fitsNow G0 [vr 88, vi f, vi s] mem (pI G0 fun z m => bT z (fitP L f s) ∧ m = mem) := by
  obtain ⟨hsz, hlen, hrow⟩ := hL
  refine CM.of (by decide +kernel) 2 (Nat.le_of_ble_eq_true rfl) ?_
  show ZZ X (0, 0) 0 mX12_fitsNow G0 0 [vr 88, vi f, vi s, vd, vd] [] mem _
  have loop : ∀ (k i : Nat) (c : Int), k + i = L.length → bT c (∀ j : Nat, j < i → f ≤ L.getD j 0 ∧ (L.getD j 0 - f) % s = 0) → ZZ X (0, 0) 0 mX12_fitsNow G0 5 [vr 88, vi f, vi s, vi c, vi (i : Int)] [] mem (pI G0 fun z m => bT z (fitP L f s) ∧ m = mem) := by
    intro k
    induction k with
    | zero =>
      intro i c hk hc
      have hi : i = L.length := by omega
      subst hi
      have hcv := hc.val
      refine z_iload dX12_fitsNow_5 rfl ?_
      refine z_aload_n dX12_fitsNow_7 rfl ?_
      refine z_gI 6 dX12_fitsNow_8 fl_X12_125 (by first | rfl | assumption) rfl rfl ?_
      rw [hsz]
      refine z_icmp_ge 55 dX12_fitsNow_11 (by decide) (fun h11 => ?_) (fun h11 => ?_)
      · refine z_iload_n dX12_fitsNow_55 rfl ?_
        refine z_zret dX12_fitsNow_56 rfl (by first | exact Or.inl rfl | exact Or.inr rfl | assumption | (split <;> simp) | omega) ?_
        exact ⟨rfl, _, rfl, hc, rfl⟩
      · omega
    | succ k ih =>
      intro i c hk hc
      have a := hr _ (getD_mem (show i < L.length by omega))
      have nx : ∀ v : Int, bT v (∀ j : Nat, j < i + 1 → f ≤ L.getD j 0 ∧ (L.getD j 0 - f) % s = 0) → ZZ X (0, 0) 0 mX12_fitsNow G0 48 [vr 88, vi f, vi s, vi c, vi (i : Int)] [vi v] mem (pI G0 fun z m => bT z (fitP L f s) ∧ m = mem) := by
        intro v hv
        refine z_istore_n dX12_fitsNow_48 (by decide) rfl ?_
        dsimp only [List.set]
        refine z_iinc dX12_fitsNow_49 rfl (by omega) (by decide) rfl ?_
        dsimp only [List.set]
        refine z_goto 5 dX12_fitsNow_52 (by decide) ?_
        exact ih (i + 1) v (by omega) hv
      refine z_iload dX12_fitsNow_5 rfl ?_
      refine z_aload_n dX12_fitsNow_7 rfl ?_
      refine z_gI 6 dX12_fitsNow_8 fl_X12_125 (by first | rfl | assumption) rfl rfl ?_
      rw [hsz]
      refine z_icmp_ge 55 dX12_fitsNow_11 (by decide) (fun h11 => ?_) (fun h11 => ?_)
      · omega
      · refine z_iload_n dX12_fitsNow_14 rfl ?_
        refine z_if_eq 47 dX12_fitsNow_15 (by decide) (fun h15 => ?_) (fun h15 => ?_)
        · refine z_iconst dX12_fitsNow_47 (by decide) ?_
          exact nx 0 (Or.inr ⟨rfl, fun q => hc.no h15 (fun j hj => q j (by omega))⟩)
        · refine z_aload_n dX12_fitsNow_18 rfl ?_
          refine z_getR (ty := .int) dX12_fitsNow_19 fl_X12_19 (by first | rfl | assumption) rfl rfl ?_
          refine z_iload dX12_fitsNow_22 rfl ?_
          refine z_iald dX12_fitsNow_24 (by first | rfl | assumption) (by omega) (by omega) ?_
          rw [hrow i (by omega)]
          refine z_iload_n dX12_fitsNow_25 rfl ?_
          refine z_icmp_lt 47 dX12_fitsNow_26 (by decide) (fun h26 => ?_) (fun h26 => ?_)
          · refine z_iconst dX12_fitsNow_47 (by decide) ?_
            exact nx 0 (Or.inr ⟨rfl, fun q => by have := q i (by omega); omega⟩)
          · refine z_aload_n dX12_fitsNow_29 rfl ?_
            refine z_getR (ty := .int) dX12_fitsNow_30 fl_X12_19 (by first | rfl | assumption) rfl rfl ?_
            refine z_iload dX12_fitsNow_33 rfl ?_
            refine z_iald dX12_fitsNow_35 (by first | rfl | assumption) (by omega) (by omega) ?_
            rw [hrow i (by omega)]
            refine z_iload_n dX12_fitsNow_36 rfl ?_
            refine z_isub dX12_fitsNow_37 (by omega) ?_
            refine z_iload_n dX12_fitsNow_38 rfl ?_
            refine z_iremp dX12_fitsNow_39 (by omega) (by omega) ?_
            refine z_if_ne 47 dX12_fitsNow_40 (by decide) (fun h40 => ?_) (fun h40 => ?_)
            · refine z_iconst dX12_fitsNow_47 (by decide) ?_
              exact nx 0 (Or.inr ⟨rfl, fun q => by have := q i (by omega); omega⟩)
            · refine z_iconst dX12_fitsNow_43 (by decide) ?_
              refine z_goto 48 dX12_fitsNow_44 (by decide) ?_
              exact nx 1 (Or.inl ⟨rfl, fun j hj => by by_cases e : j = i; subst e; exact ⟨by omega, h40⟩; exact hc.yes h15 j (by omega)⟩)
  refine z_iconst dX12_fitsNow_0 (by decide) ?_
  refine z_istore_n dX12_fitsNow_1 (by decide) rfl ?_
  dsimp only [List.set]
  refine z_iconst dX12_fitsNow_2 (by decide) ?_
  refine z_istore dX12_fitsNow_3 (by decide) rfl ?_
  dsimp only [List.set]
  exact loop L.length 0 1 (by omega) (Or.inl ⟨rfl, fun j hj => by omega⟩)
-- promise 4 and promise 5, both sides
def numA (nf : Nat) (fd : Nat → Nat → Int) (mk wh : Int) : Int := if (0 ≤ mk ∧ mk ≤ 5) ∧ 0 ≤ wh ∧ wh ≤ 2 then numB (gatL fd mk (-1) nf) wh else -2
theorem cm_X11_numbers {mk wh : Int} (hf : finC mem nf fd) (hfr : finR nf fd) : CM X (0, 0) 2 mX11_numbers G0 [vr 0, vi mk, vi wh] mem (pI G0 fun z m => z = numA nf fd mk wh ∧ onMk mem m) := by
  have hs := gatL_srt fd mk (-1) nf
  have hr := gatL_rng (mk := mk) (wo := -1) hfr
  have hleA : stepA (gatL fd mk (-1) nf) ≤ 9999 := by
    by_cases q : (gatL fd mk (-1) nf).length = 0
    · rw [stepA, q]; simp [stM]
    · exact stM_le hr hs _ (by omega)
  unfold numA
  generalize hLe : gatL fd mk (-1) nf = L at hs hr hleA ⊢
  refine CM.of (by decide +kernel) 1 (Nat.le_of_ble_eq_true rfl) ?_
  show ZZ X (0, 0) 2 mX11_numbers G0 0 [vr 0, vi mk, vi wh, vd] [] mem _
  refine z_iload_n dX11_numbers_0 rfl ?_
  refine z_iconst dX11_numbers_1 (by decide) ?_
  refine z_iconst dX11_numbers_2 (by decide) ?_
  refine z_S3i dX11_numbers_3 ok_X11_within lk_X11_83 (Nat.le_of_ble_eq_true rfl) (by decide) (cm_X11_within) (fun z1 m1 hm1 => ?_)
  obtain ⟨hz1, rfl⟩ := hm1
  refine z_if_eq 18 dX11_numbers_6 (by decide) (fun h6 => ?_) (fun h6 => ?_)
  · refine z_bipush dX11_numbers_18 (by decide) ?_
    refine z_iret dX11_numbers_20 rfl ?_
    exact ⟨rfl, _, rfl, by rw [if_neg (by omega)], fun _ _ _ => rfl⟩
  · refine z_iload_n dX11_numbers_9 rfl ?_
    refine z_iconst dX11_numbers_10 (by decide) ?_
    refine z_iconst dX11_numbers_11 (by decide) ?_
    refine z_S3i dX11_numbers_12 ok_X11_within lk_X11_83 (Nat.le_of_ble_eq_true rfl) (by decide) (cm_X11_within) (fun z2 m1 hm1 => ?_)
    obtain ⟨hz2, rfl⟩ := hm1
    refine z_if_ne 21 dX11_numbers_15 (by decide) (fun h15 => ?_) (fun h15 => ?_)
    · refine z_aload_n dX11_numbers_21 rfl ?_
      refine z_getR (ty := .int) dX11_numbers_22 fl_X11_10 (by first | rfl | assumption) rfl rfl ?_
      refine z_iload_n dX11_numbers_25 rfl ?_
      refine z_iconst dX11_numbers_26 (by decide) ?_
      refine z_aload_n dX11_numbers_27 rfl ?_
      refine z_getR (ty := .int) dX11_numbers_28 fl_X11_19 (by first | rfl | assumption) rfl rfl ?_
      refine z_V3v dX11_numbers_31 ok_X3_gather lk_X11_98 (by first | rfl | assumption) rfl rfl (Nat.le_of_ble_eq_true rfl) (by decide) (cm_X3_gather hf) (fun m2 hm2 => ?_)
      obtain ⟨l1, l2⟩ := hm2
      rw [hLe] at l1
      rw [if_pos (by omega)]
      refine z_iload_n dX11_numbers_34 rfl ?_
      refine z_if_ne 46 dX11_numbers_35 (by decide) (fun h35 => ?_) (fun h35 => ?_)
      · refine z_aload_n dX11_numbers_46 rfl ?_
        refine z_getR (ty := .int) dX11_numbers_47 fl_X11_19 (by first | rfl | assumption) rfl rfl ?_
        refine z_V0i dX11_numbers_50 ok_X6_commonStep lk_X11_103 (by first | rfl | assumption) rfl rfl (Nat.le_of_ble_eq_true rfl) (by decide) (cm_X6_commonStep l1 hs hr) (fun z3 m3 hm3 => ?_)
        obtain ⟨rfl, rfl⟩ := hm3
        refine z_istore_n dX11_numbers_53 (by decide) rfl ?_
        dsimp only [List.set]
        refine z_iload_n dX11_numbers_54 rfl ?_
        refine z_iconst dX11_numbers_55 (by decide) ?_
        refine z_icmp_ne 63 dX11_numbers_56 (by decide) (fun h56 => ?_) (fun h56 => ?_)
        · refine z_iload_n dX11_numbers_63 rfl ?_
          refine z_S1i dX11_numbers_64 ok_X11_stepsOf lk_X11_107 (Nat.le_of_ble_eq_true rfl) (by decide) (cm_X11_stepsOf hleA) (fun z4 m4 hm4 => ?_)
          obtain ⟨rfl, rfl⟩ := hm4
          refine z_iret dX11_numbers_67 rfl ?_
          refine ⟨rfl, _, rfl, ?_, l2⟩
          unfold numB
          rw [if_neg h35]
          first | (rw [if_pos h56]; done) | (rw [if_neg h56]; done)
        · refine z_iload_n dX11_numbers_59 rfl ?_
          refine z_goto 67 dX11_numbers_60 (by decide) ?_
          refine z_iret dX11_numbers_67 rfl ?_
          refine ⟨rfl, _, rfl, ?_, l2⟩
          unfold numB
          rw [if_neg h35]
          first | (rw [if_pos h56]; done) | (rw [if_neg h56]; done)
      · refine z_aload_n dX11_numbers_38 rfl ?_
        refine z_getR (ty := .int) dX11_numbers_39 fl_X11_19 (by first | rfl | assumption) rfl rfl ?_
        refine z_gI 1 dX11_numbers_42 fl_X11_102 (by first | rfl | assumption) rfl rfl ?_
        rw [l1.1]
        refine z_iret dX11_numbers_45 rfl ?_
        exact ⟨rfl, _, rfl, by unfold numB; rw [if_pos h35], l2⟩
    · refine z_bipush dX11_numbers_18 (by decide) ?_
      refine z_iret dX11_numbers_20 rfl ?_
      exact ⟨rfl, _, rfl, by rw [if_neg (by omega)], fun _ _ _ => rfl⟩
theorem cm_X12_numbers {mk wh : Int} (hf : finM mem nf fd) (hfr : finR nf fd) : CM X (0, 0) 4 mX12_numbers G0 [vr 88, vi mk, vi wh] mem (pI G0 fun z m => z = numA nf fd mk wh ∧ onNm mem m) := by
  unfold numA
  refine CM.of (by decide +kernel) 0 (Nat.le_of_ble_eq_true rfl) ?_
  show ZZ X (0, 0) 4 mX12_numbers G0 0 [vr 88, vi mk, vi wh] [] mem _
  refine z_iload_n dX12_numbers_0 rfl ?_
  refine z_S1i dX12_numbers_1 ok_X12_isMaker lk_X12_103 (Nat.le_of_ble_eq_true rfl) (by decide) (cm_X12_isMaker) (fun z1 m1 hm1 => ?_)
  obtain ⟨hz1, rfl⟩ := hm1
  refine z_if_eq 28 dX12_numbers_4 (by decide) (fun h4 => ?_) (fun h4 => ?_)
  · refine z_bipush dX12_numbers_28 (by decide) ?_
    refine z_iret dX12_numbers_30 rfl ?_
    first | exact ⟨rfl, _, rfl, by rw [if_pos (by omega)], l2⟩ | exact ⟨rfl, _, rfl, by rw [if_neg (by omega)], onNm.rf⟩
  · refine z_iload_n dX12_numbers_7 rfl ?_
    refine z_i2l dX12_numbers_8 ?_
    refine z_lconst (z := 0) dX12_numbers_9 rfl (by decide) ?_
    refine z_ldc2 (z := 2) dX12_numbers_10 kc_X12_138 (by decide) ?_
    refine z_S3i dX12_numbers_13 ok_X12_in lk_X12_97 (Nat.le_of_ble_eq_true rfl) (by decide) (cm_X12_in) (fun z2 m1 hm1 => ?_)
    obtain ⟨hz2, rfl⟩ := hm1
    refine z_if_eq 28 dX12_numbers_16 (by decide) (fun h16 => ?_) (fun h16 => ?_)
    · refine z_bipush dX12_numbers_28 (by decide) ?_
      refine z_iret dX12_numbers_30 rfl ?_
      first | exact ⟨rfl, _, rfl, by rw [if_pos (by omega)], l2⟩ | exact ⟨rfl, _, rfl, by rw [if_neg (by omega)], onNm.rf⟩
    · refine z_aload_n dX12_numbers_19 rfl ?_
      refine z_iload_n dX12_numbers_20 rfl ?_
      refine z_iload_n dX12_numbers_21 rfl ?_
      refine z_V2i dX12_numbers_22 ok_X12_numbersOf lk_X12_140 (by first | rfl | assumption) rfl rfl (Nat.le_of_ble_eq_true rfl) (by decide) (cm_X12_numbersOf hf hfr) (fun z3 m3 hm3 => ?_)
      obtain ⟨rfl, l2⟩ := hm3
      refine z_goto 30 dX12_numbers_25 (by decide) ?_
      refine z_iret dX12_numbers_30 rfl ?_
      first | exact ⟨rfl, _, rfl, by rw [if_pos (by omega)], l2⟩ | exact ⟨rfl, _, rfl, by rw [if_neg (by omega)], onNm.rf⟩
/-- fits: 1, 0, or -2 -/
def fitA (nf : Nat) (fd : Nat → Nat → Int) (mk f s z : Int) : Prop := ((0 ≤ mk ∧ mk ≤ 5 ∧ 0 ≤ f ∧ f ≤ 9999 ∧ 1 ≤ s ∧ s ≤ 99) ∧ bT z (fitP (gatL fd mk (-1) nf) f s)) ∨ (¬ (0 ≤ mk ∧ mk ≤ 5 ∧ 0 ≤ f ∧ f ≤ 9999 ∧ 1 ≤ s ∧ s ≤ 99) ∧ z = -2)
theorem fitA.uniq {mk f s z z' : Int} (h : fitA nf fd mk f s z) (h' : fitA nf fd mk f s z') : z = z' := by
  rcases h with ⟨a, b⟩ | ⟨a, b⟩ <;> rcases h' with ⟨a', b'⟩ | ⟨a', b'⟩
  · rcases b with ⟨c, d⟩ | ⟨c, d⟩ <;> rcases b' with ⟨c', d'⟩ | ⟨c', d'⟩
    · omega
    · exact absurd d d'
    · exact absurd d' d
    · omega
  · exact absurd a a'
  · exact absurd a' a
  · omega
theorem cm_X11_fits {mk f s : Int} (hf : finC mem nf fd) (hfr : finR nf fd) : CM X (0, 0) 2 mX11_fits G0 [vr 0, vi mk, vi f, vi s] mem (pI G0 fun z m => fitA nf fd mk f s z ∧ onMk mem m) := by
  refine CM.of (by decide +kernel) 0 (Nat.le_of_ble_eq_true rfl) ?_
  show ZZ X (0, 0) 2 mX11_fits G0 0 [vr 0, vi mk, vi f, vi s] [] mem _
  refine z_iload_n dX11_fits_0 rfl ?_
  refine z_iload_n dX11_fits_1 rfl ?_
  refine z_iload_n dX11_fits_2 rfl ?_
  refine z_S3i dX11_fits_3 ok_X11_isScheme lk_X11_111 (Nat.le_of_ble_eq_true rfl) (by decide) (cm_X11_isScheme) (fun z1 m1 hm1 => ?_)
  obtain ⟨hz1, rfl⟩ := hm1
  refine z_if_ne 12 dX11_fits_6 (by decide) (fun h6 => ?_) (fun h6 => ?_)
  · refine z_aload_n dX11_fits_12 rfl ?_
    refine z_getR (ty := .int) dX11_fits_13 fl_X11_10 (by first | rfl | assumption) rfl rfl ?_
    refine z_iload_n dX11_fits_16 rfl ?_
    refine z_iconst dX11_fits_17 (by decide) ?_
    refine z_aload_n dX11_fits_18 rfl ?_
    refine z_getR (ty := .int) dX11_fits_19 fl_X11_19 (by first | rfl | assumption) rfl rfl ?_
    refine z_V3v dX11_fits_22 ok_X3_gather lk_X11_98 (by first | rfl | assumption) rfl rfl (Nat.le_of_ble_eq_true rfl) (by decide) (cm_X3_gather hf) (fun m2 hm2 => ?_)
    obtain ⟨l1, l2⟩ := hm2
    refine z_aload_n dX11_fits_25 rfl ?_
    refine z_getR (ty := .int) dX11_fits_26 fl_X11_19 (by first | rfl | assumption) rfl rfl ?_
    refine z_iload_n dX11_fits_29 rfl ?_
    refine z_iload_n dX11_fits_30 rfl ?_
    refine z_V2i dX11_fits_31 ok_X6_suit lk_X11_114 (by first | rfl | assumption) rfl rfl (Nat.le_of_ble_eq_true rfl) (by decide) (cm_X6_suit l1 (gatL_rng hfr) (by omega) (by omega) (by omega)) (fun z3 m3 hm3 => ?_)
    obtain ⟨hz3, rfl⟩ := hm3
    refine z_if_eq 41 dX11_fits_34 (by decide) (fun h34 => ?_) (fun h34 => ?_)
    · refine z_iconst dX11_fits_41 (by decide) ?_
      refine z_iret dX11_fits_42 rfl ?_
      refine ⟨rfl, _, rfl, Or.inl ⟨by omega, ?_⟩, l2⟩
      first | exact Or.inl ⟨rfl, hz3.yes h34⟩ | exact Or.inr ⟨rfl, hz3.no h34⟩
    · refine z_iconst dX11_fits_37 (by decide) ?_
      refine z_goto 42 dX11_fits_38 (by decide) ?_
      refine z_iret dX11_fits_42 rfl ?_
      refine ⟨rfl, _, rfl, Or.inl ⟨by omega, ?_⟩, l2⟩
      first | exact Or.inl ⟨rfl, hz3.yes h34⟩ | exact Or.inr ⟨rfl, hz3.no h34⟩
  · refine z_bipush dX11_fits_9 (by decide) ?_
    refine z_iret dX11_fits_11 rfl ?_
    exact ⟨rfl, _, rfl, Or.inr ⟨by omega, rfl⟩, fun _ _ _ => rfl⟩
theorem cm_X12_fits {mk f s : Int} (hf : finM mem nf fd) (hfr : finR nf fd) : CM X (0, 0) 3 mX12_fits G0 [vr 88, vi mk, vi f, vi s] mem (pI G0 fun z m => fitA nf fd mk f s z ∧ onNm mem m) := by
  refine CM.of (by decide +kernel) 0 (Nat.le_of_ble_eq_true rfl) ?_
  show ZZ X (0, 0) 3 mX12_fits G0 0 [vr 88, vi mk, vi f, vi s] [] mem _
  refine z_iload_n dX12_fits_0 rfl ?_
  refine z_S1i dX12_fits_1 ok_X12_isMaker lk_X12_103 (Nat.le_of_ble_eq_true rfl) (by decide) (cm_X12_isMaker) (fun z1 m1 hm1 => ?_)
  obtain ⟨hz1, rfl⟩ := hm1
  refine z_if_eq 15 dX12_fits_4 (by decide) (fun h4 => ?_) (fun h4 => ?_)
  · refine z_bipush dX12_fits_15 (by decide) ?_
    refine z_iret dX12_fits_17 rfl ?_
    exact ⟨rfl, _, rfl, Or.inr ⟨by omega, rfl⟩, onNm.rf⟩
  · refine z_iload_n dX12_fits_7 rfl ?_
    refine z_iload_n dX12_fits_8 rfl ?_
    refine z_S2i dX12_fits_9 ok_X12_isScheme lk_X12_145 (Nat.le_of_ble_eq_true rfl) (by decide) (cm_X12_isScheme) (fun z2 m1 hm1 => ?_)
    obtain ⟨hz2, rfl⟩ := hm1
    refine z_if_ne 18 dX12_fits_12 (by decide) (fun h12 => ?_) (fun h12 => ?_)
    · refine z_aload_n dX12_fits_18 rfl ?_
      refine z_iload_n dX12_fits_19 rfl ?_
      refine z_iconst dX12_fits_20 (by decide) ?_
      refine z_V2v dX12_fits_21 ok_X12_finds0 lk_X12_132 (by first | rfl | assumption) rfl rfl (Nat.le_of_ble_eq_true rfl) (by decide) (cm_X12_finds0 hf) (fun m2 hm2 => ?_)
      obtain ⟨l1, l2⟩ := hm2
      refine z_aload_n dX12_fits_24 rfl ?_
      refine z_iload_n dX12_fits_25 rfl ?_
      refine z_iload_n dX12_fits_26 rfl ?_
      refine z_V2i dX12_fits_27 ok_X12_fitsNow lk_X12_148 (by first | rfl | assumption) rfl rfl (Nat.le_of_ble_eq_true rfl) (by decide) (cm_X12_fitsNow l1 (gatL_rng hfr) (by omega) (by omega) (by omega)) (fun z3 m3 hm3 => ?_)
      obtain ⟨hz3, rfl⟩ := hm3
      refine z_if_eq 37 dX12_fits_30 (by decide) (fun h30 => ?_) (fun h30 => ?_)
      · refine z_iconst dX12_fits_37 (by decide) ?_
        refine z_iret dX12_fits_38 rfl ?_
        refine ⟨rfl, _, rfl, Or.inl ⟨by omega, ?_⟩, l2⟩
        first | exact Or.inl ⟨rfl, hz3.yes h30⟩ | exact Or.inr ⟨rfl, hz3.no h30⟩
      · refine z_iconst dX12_fits_33 (by decide) ?_
        refine z_goto 38 dX12_fits_34 (by decide) ?_
        refine z_iret dX12_fits_38 rfl ?_
        refine ⟨rfl, _, rfl, Or.inl ⟨by omega, ?_⟩, l2⟩
        first | exact Or.inl ⟨rfl, hz3.yes h30⟩ | exact Or.inr ⟨rfl, hz3.no h30⟩
    · refine z_bipush dX12_fits_15 (by decide) ?_
      refine z_iret dX12_fits_17 rfl ?_
      exact ⟨rfl, _, rfl, Or.inr ⟨by omega, rfl⟩, onNm.rf⟩
end Numb
