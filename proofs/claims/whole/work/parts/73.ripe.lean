/-! ===== the class's ripe words ===== -/
section Ripe
variable {X : Nat × (Int → Int)} {mem : Mem} {nw : Nat} {wd : Nat → Nat → Int}
/-- the words are as told -/
def wdR (nw : Nat) (wd : Nat → Nat → Int) : Prop := ∀ w : Nat, w < nw → okWord (wd 0 w) (wd 1 w) (wd 2 w) (wd 3 w)
theorem wdR.at {w : Nat} (h : wdR nw wd) (hw : w < nw) : ∃ l c : Nat, wd 0 w = (l : Int) ∧ wd 1 w = (c : Int) ∧ 1 ≤ l ∧ l ≤ 4 ∧ c < 1296 := by
  obtain ⟨⟨⟨h1, h2⟩, h3, h4⟩, -, -⟩ := h w hw
  refine ⟨(wd 0 w).toNat, (wd 1 w).toNat, by omega, by omega, by omega, by omega, ?_⟩
  unfold rowsOf at h4
  split at h4
  · omega
  · split at h4
    · omega
    · split at h4 <;> omega
def ripW (D : Int → Int) (c l : Nat) : Nat → Int
  | 0 => 0
  | i + 1 => if ripW D c l i < D ((ltr c (l - 1 - i) : Nat) : Int) then D ((ltr c (l - 1 - i) : Nat) : Int) else ripW D c l i
theorem ripW_ge (D : Int → Int) (c l : Nat) : ∀ i : Nat, 0 ≤ ripW D c l i ∧ ∀ i', i' < i → D ((ltr c (l - 1 - i') : Nat) : Int) ≤ ripW D c l i
  | 0 => ⟨Int.le_refl 0, fun i' h => by omega⟩
  | i + 1 => by
    obtain ⟨h1, h2⟩ := ripW_ge D c l i
    have hs : ripW D c l (i + 1) = if ripW D c l i < D ((ltr c (l - 1 - i) : Nat) : Int) then D ((ltr c (l - 1 - i) : Nat) : Int) else ripW D c l i := rfl
    rw [hs]
    refine ⟨by split <;> omega, fun i' hi' => ?_⟩
    by_cases q : i' = i
    · subst q; split <;> omega
    · have := h2 i' (by omega)
      split <;> omega
theorem ripW_le {D : Int → Int} {c l : Nat} {B : Int} (hB : 0 ≤ B) : ∀ i : Nat, (∀ i', i' < i → D ((ltr c (l - 1 - i') : Nat) : Int) ≤ B) → ripW D c l i ≤ B
  | 0, _ => hB
  | i + 1, h => by
    have h1 := ripW_le hB i (fun i' hi' => h i' (by omega))
    have h2 := h i (by omega)
    show (if _ then _ else _) ≤ B
    split <;> omega
/-- when a word is ripe -/
def ripN (mem : Mem) (wd : Nat → Nat → Int) (w : Nat) : Nat := (ripW (mem 29) (wd 1 w).toNat (wd 0 w).toNat (wd 0 w).toNat).toNat
/-- all its letters have their places by then -/
theorem rip_ok {O : List Nat} (hr : wdR nw wd) (hO : ordAt mem O) {w : Nat} (hw : w < nw) (hin : ∀ j, j < (wd 0 w).toNat → ltr (wd 1 w).toNat j ∈ O) : ripW (mem 29) (wd 1 w).toNat (wd 0 w).toNat (wd 0 w).toNat = (ripN mem wd w : Int) ∧ ripN mem wd w < O.length ∧ ∀ j, j < (wd 0 w).toNat → ∃ i : Nat, i ≤ ripN mem wd w ∧ i < O.length ∧ ltr (wd 1 w).toNat j = O.getD i 0 := by
  obtain ⟨l, c, e0, e1, hl1, hl4, hc⟩ := hr.at hw
  unfold ripN
  rw [e0, e1, Int.toNat_natCast, Int.toNat_natCast] at hin ⊢
  have hge := ripW_ge (mem 29) c l l
  have hidx : ∀ j, j < l → ∃ i : Nat, i < O.length ∧ mem 29 ((ltr c j : Nat) : Int) = (i : Int) ∧ ltr c j = O.getD i 0 := by
    intro j hj
    obtain ⟨i, hi, he⟩ := mem_getD (hin j hj)
    refine ⟨i, hi, ?_, he.symm⟩
    rw [← he]
    exact hO.2.2.1 i hi
  have h0 : 0 < O.length := by
    obtain ⟨i, hi, -⟩ := hidx 0 (by omega)
    omega
  have hle : ripW (mem 29) c l l ≤ ((O.length - 1 : Nat) : Int) := by
    refine ripW_le (by omega) l (fun i' hi' => ?_)
    obtain ⟨i, hi, he, -⟩ := hidx (l - 1 - i') (by omega)
    rw [he]
    omega
  have e : ((ripW (mem 29) c l l).toNat : Int) = ripW (mem 29) c l l := Int.toNat_of_nonneg hge.1
  refine ⟨e.symm, by omega, fun j hj => ?_⟩
  obtain ⟨i, hi, he, hl⟩ := hidx j hj
  refine ⟨i, ?_, hi, hl⟩
  have := hge.2 (l - 1 - j) (by omega)
  rw [show l - 1 - (l - 1 - j) = j by omega, he] at this
  omega
theorem cm_X10_ripeAt {w : Nat} (hf : wdC mem nw wd) (hr : wdR nw wd) (hw : w < nw) : CM X (0, 0) 2 mX10_ripeAt G0 [vr 22, vi (w : Int)] mem (pI G0 fun z m => z = ripW (mem 29) (wd 1 w).toNat (wd 0 w).toNat (wd 0 w).toNat ∧ m = mem) := by
  obtain ⟨l, c, e0, e1, hl1, hl4, hc⟩ := hr.at hw
  have hn := hf.1
  have h23 := hf.2.2 0 w (by decide) hw
  have h24 := hf.2.2 1 w (by decide) hw
  rw [e0] at h23
  rw [e1] at h24
  rw [e0, e1, Int.toNat_natCast, Int.toNat_natCast]
  refine CM.of (by decide +kernel) 2 (Nat.le_of_ble_eq_true rfl) ?_
  show ZZ X (0, 0) 2 mX10_ripeAt G0 0 [vr 22, vi (w : Int), vd, vd] [] mem _
  have loop : ∀ (e i : Nat), i + e = l → ZZ X (0, 0) 2 mX10_ripeAt G0 4 [vr 22, vi (w : Int), vi (ripW (mem 29) c l i), vi (i : Int)] [] mem (pI G0 fun z m => z = ripW (mem 29) c l l ∧ m = mem) := by
    intro e
    induction e with
    | zero =>
      intro i hi
      have : i = l := by omega
      subst this
      refine z_iload_n dX10_ripeAt_4 rfl ?_
      refine z_aload_n dX10_ripeAt_5 rfl ?_
      refine z_getR (ty := .int) dX10_ripeAt_6 fl_X10_11 (by first | rfl | assumption) rfl rfl ?_
      refine z_iload_n dX10_ripeAt_9 rfl ?_
      refine z_iald dX10_ripeAt_10 (by first | rfl | assumption) (by omega) (by omega) ?_
      rw [h23]
      refine z_icmp_ge 46 dX10_ripeAt_11 (by decide) (fun h11 => ?_) (fun h11 => ?_)
      · refine z_iload_n dX10_ripeAt_46 rfl ?_
        refine z_iret dX10_ripeAt_47 rfl ?_
        exact ⟨rfl, _, rfl, rfl, rfl⟩
      · omega
    | succ e ih =>
      intro i hi
      have h6 := ltr_lt c (l - 1 - i)
      have ih' := ih (i + 1) (by omega)
      refine z_iload_n dX10_ripeAt_4 rfl ?_
      refine z_aload_n dX10_ripeAt_5 rfl ?_
      refine z_getR (ty := .int) dX10_ripeAt_6 fl_X10_11 (by first | rfl | assumption) rfl rfl ?_
      refine z_iload_n dX10_ripeAt_9 rfl ?_
      refine z_iald dX10_ripeAt_10 (by first | rfl | assumption) (by omega) (by omega) ?_
      rw [h23]
      refine z_icmp_ge 46 dX10_ripeAt_11 (by decide) (fun h11 => ?_) (fun h11 => ?_)
      · omega
      · refine z_iload_n dX10_ripeAt_14 rfl ?_
        refine z_aload_n dX10_ripeAt_15 rfl ?_
        refine z_getR (ty := .int) dX10_ripeAt_16 fl_X10_30 (by first | rfl | assumption) rfl rfl ?_
        refine z_aload_n dX10_ripeAt_19 rfl ?_
        refine z_getR (ty := .int) dX10_ripeAt_20 fl_X10_11 (by first | rfl | assumption) rfl rfl ?_
        refine z_iload_n dX10_ripeAt_23 rfl ?_
        refine z_iald dX10_ripeAt_24 (by first | rfl | assumption) (by omega) (by omega) ?_
        rw [h23]
        refine z_aload_n dX10_ripeAt_25 rfl ?_
        refine z_getR (ty := .int) dX10_ripeAt_26 fl_X10_15 (by first | rfl | assumption) rfl rfl ?_
        refine z_iload_n dX10_ripeAt_29 rfl ?_
        refine z_iald dX10_ripeAt_30 (by first | rfl | assumption) (by omega) (by omega) ?_
        rw [h24]
        refine z_iload_n dX10_ripeAt_31 rfl ?_
        refine z_S3i dX10_ripeAt_32 ok_X10_letterAt lk_X10_94 (Nat.le_of_ble_eq_true rfl) (by decide) (cm_X10_letterAt hl4 (by omega : i < l) hc) (fun z1 m1 hm1 => ?_)
        obtain ⟨rfl, hmm⟩ := hm1
        subst hmm
        refine z_iald dX10_ripeAt_35 (by first | rfl | assumption) (by omega) (by omega) ?_
        refine z_max dX10_ripeAt_36 lm_X10_102 (by decide) (Nat.le_of_ble_eq_true rfl) ?_
        refine z_istore_n dX10_ripeAt_39 (by decide) rfl ?_
        dsimp only [List.set]
        refine z_iinc dX10_ripeAt_40 rfl (by omega) (by decide) rfl ?_
        dsimp only [List.set]
        refine z_goto 4 dX10_ripeAt_43 (by decide) ?_
        exact ih'
  refine z_iconst dX10_ripeAt_0 (by decide) ?_
  refine z_istore_n dX10_ripeAt_1 (by decide) rfl ?_
  dsimp only [List.set]
  refine z_iconst dX10_ripeAt_2 (by decide) ?_
  refine z_istore_n dX10_ripeAt_3 (by decide) rfl ?_
  dsimp only [List.set]
  exact loop l 0 (by omega)
theorem cm_X10_valueOf {l c : Nat} (hg : figR (mem 30)) (hl : l ≤ 4) (hc : c < 1296) : CM X (0, 0) 0 mX10_valueOf G0 [vr 22, vi (l : Int), vi (c : Int)] mem (pI G0 fun z m => z = valN (mem 30) c l ∧ m = mem) := by
  refine CM.of (by decide +kernel) 4 (Nat.le_of_ble_eq_true rfl) ?_
  show ZZ X (0, 0) 0 mX10_valueOf G0 0 [vr 22, vi (l : Int), vi (c : Int), vd, vd, vd, vd] [] mem _
  have loop : ∀ (e i : Nat), i + e = l → ZZ X (0, 0) 0 mX10_valueOf G0 11 [vr 22, vi (l : Int), vi (c : Int), vi (valN (mem 30) c i), vi ((10 ^ i : Nat) : Int), vi ((c / 6 ^ i : Nat) : Int), vi (i : Int)] [] mem (pI G0 fun z m => z = valN (mem 30) c l ∧ m = mem) := by
    intro e
    induction e with
    | zero =>
      intro i hi
      have : i = l := by omega
      subst this
      refine z_iload dX10_valueOf_11 rfl ?_
      refine z_iload_n dX10_valueOf_13 rfl ?_
      refine z_icmp_ge 53 dX10_valueOf_14 (by decide) (fun h14 => ?_) (fun h14 => ?_)
      · refine z_iload_n dX10_valueOf_53 rfl ?_
        refine z_iret dX10_valueOf_54 rfl ?_
        exact ⟨rfl, _, rfl, rfl, rfl⟩
      · omega
    | succ e ih =>
      intro i hi
      have ih' := ih (i + 1) (by omega)
      have h6 := ltr_lt c i
      have hf := hg (ltr c i) h6
      have hv := valN_bd hg c i
      have hp : 10 ^ i ≤ 10 ^ 4 := Nat.pow_le_pow_right (by decide) (by omega)
      have hp0 : 0 < 10 ^ i := Nat.pow_pos (by decide)
      have hcd : c / 6 ^ i ≤ c := Nat.div_le_self _ _
      have e1 : ((c / 6 ^ i : Nat) : Int) % 6 = ((ltr c i : Nat) : Int) := rfl
      have e2 : ((c / 6 ^ i : Nat) : Int) / 6 = ((c / 6 ^ (i + 1) : Nat) : Int) := by
        rw [Nat.pow_succ, ← Nat.div_div_eq_div_mul]
        rfl
      have e3 : ((10 ^ i : Nat) : Int) * 10 = ((10 ^ (i + 1) : Nat) : Int) := by
        rw [Nat.pow_succ]
        omega
      have m1 := Int.mul_nonneg (show (0 : Int) ≤ ((10 ^ i : Nat) : Int) by omega) hf.1
      have m2 := Int.mul_le_mul_of_nonneg_left hf.2 (show (0 : Int) ≤ ((10 ^ i : Nat) : Int) by omega)
      have hvn : valN (mem 30) c (i + 1) = valN (mem 30) c i + ((10 ^ i : Nat) : Int) * mem 30 ((ltr c i : Nat) : Int) := rfl
      rw [hvn, ← e2, ← e3] at ih'
      have hC0 : (0 : Int) ≤ ((c / 6 ^ i : Nat) : Int) := Int.natCast_nonneg _
      generalize hP : ((10 ^ i : Nat) : Int) = P at *
      generalize hC : ((c / 6 ^ i : Nat) : Int) = C at *
      refine z_iload dX10_valueOf_11 rfl ?_
      refine z_iload_n dX10_valueOf_13 rfl ?_
      refine z_icmp_ge 53 dX10_valueOf_14 (by decide) (fun h14 => ?_) (fun h14 => ?_)
      · omega
      · refine z_iload_n dX10_valueOf_17 rfl ?_
        refine z_iload dX10_valueOf_18 rfl ?_
        refine z_aload_n dX10_valueOf_20 rfl ?_
        refine z_getR (ty := .int) dX10_valueOf_21 fl_X10_33 (by first | rfl | assumption) rfl rfl ?_
        refine z_iload dX10_valueOf_24 rfl ?_
        refine z_bipush dX10_valueOf_26 (by decide) ?_
        refine z_iremp dX10_valueOf_28 (by omega) (by omega) ?_
        rw [e1]
        refine z_iald dX10_valueOf_29 (by first | rfl | assumption) (by omega) (by omega) ?_
        refine z_imul dX10_valueOf_30 (by omega) ?_
        refine z_iadd dX10_valueOf_31 (by omega) ?_
        refine z_istore_n dX10_valueOf_32 (by decide) rfl ?_
        dsimp only [List.set]
        refine z_iload dX10_valueOf_33 rfl ?_
        refine z_bipush dX10_valueOf_35 (by decide) ?_
        refine z_idiv dX10_valueOf_37 (by omega) (by omega) ?_
        refine z_istore dX10_valueOf_38 (by decide) rfl ?_
        dsimp only [List.set]
        refine z_iload dX10_valueOf_40 rfl ?_
        refine z_bipush dX10_valueOf_42 (by decide) ?_
        refine z_imul dX10_valueOf_44 (by omega) ?_
        refine z_istore dX10_valueOf_45 (by decide) rfl ?_
        dsimp only [List.set]
        refine z_iinc dX10_valueOf_47 rfl (by omega) (by decide) rfl ?_
        dsimp only [List.set]
        refine z_goto 11 dX10_valueOf_50 (by decide) ?_
        exact ih'
  refine z_iconst dX10_valueOf_0 (by decide) ?_
  refine z_istore_n dX10_valueOf_1 (by decide) rfl ?_
  dsimp only [List.set]
  refine z_iconst dX10_valueOf_2 (by decide) ?_
  refine z_istore dX10_valueOf_3 (by decide) rfl ?_
  dsimp only [List.set]
  refine z_iload_n dX10_valueOf_5 rfl ?_
  refine z_istore dX10_valueOf_6 (by decide) rfl ?_
  dsimp only [List.set]
  refine z_iconst dX10_valueOf_8 (by decide) ?_
  refine z_istore dX10_valueOf_9 (by decide) rfl ?_
  dsimp only [List.set]
  refine (show (c : Int) = ((c / 6 ^ 0 : Nat) : Int) by rw [Nat.pow_zero, Nat.div_one]) ▸ loop l 0 (by omega)
/-- the ripe words by depth -/
def ripS (mem : Mem) (nw : Nat) (rp : Nat → Nat) (d : Nat) : Prop := ∃ a b : Nat, (d = 0 → a = 0) ∧ (0 < d → mem 32 ((d - 1 : Nat) : Int) = (a : Int)) ∧ mem 32 (d : Int) = (b : Int) ∧ a ≤ b ∧ b ≤ 12 ∧ (∀ i : Nat, a ≤ i → i < b → ∃ w : Nat, w < nw ∧ mem 31 (i : Int) = (w : Int) ∧ rp w = d) ∧ (∀ w : Nat, w < nw → rp w = d → ∃ i : Nat, a ≤ i ∧ i < b ∧ mem 31 (i : Int) = (w : Int))
theorem cm_X10_holdAt {rp : Nat → Nat} {d : Nat} (hf : wdC mem nw wd) (hr : wdR nw wd) (hg : figR (mem 30)) (hd : d < 6) (hs : ripS mem nw rp d) : CM X (0, 0) 1 mX10_holdAt G0 [vr 22, vi (d : Int)] mem (pI G0 fun z m => bT z (∀ w : Nat, w < nw → rp w = d → okWP wd (mem 30) w) ∧ m = mem) := by
  obtain ⟨a, b, ha0, ha1, hb, hab, hb12, hin, hout⟩ := hs
  have hn := hf.1
  refine CM.of (by decide +kernel) 2 (Nat.le_of_ble_eq_true rfl) ?_
  show ZZ X (0, 0) 1 mX10_holdAt G0 0 [vr 22, vi (d : Int), vd, vd] [] mem _
  have loop : ∀ (e i : Nat) (u3 : VV), i + e = b → a ≤ i → (∀ i' : Nat, a ≤ i' → i' < i → ∀ w : Nat, mem 31 (i' : Int) = (w : Int) → okWP wd (mem 30) w) → ZZ X (0, 0) 1 mX10_holdAt G0 17 [vr 22, vi (d : Int), vi (i : Int), u3] [] mem (pI G0 fun z m => bT z (∀ w : Nat, w < nw → rp w = d → okWP wd (mem 30) w) ∧ m = mem) := by
    intro e
    induction e with
    | zero =>
      intro i u3 hi hai hdn
      have : i = b := by omega
      subst this
      refine z_iload_n dX10_holdAt_17 rfl ?_
      refine z_aload_n dX10_holdAt_18 rfl ?_
      refine z_getR (ty := .int) dX10_holdAt_19 fl_X10_39 (by first | rfl | assumption) rfl rfl ?_
      refine z_iload_n dX10_holdAt_22 rfl ?_
      refine z_iald dX10_holdAt_23 (by first | rfl | assumption) (by omega) (by omega) ?_
      rw [hb]
      refine z_icmp_ge 76 dX10_holdAt_24 (by decide) (fun h24 => ?_) (fun h24 => ?_)
      · refine z_iconst dX10_holdAt_76 (by decide) ?_
        refine z_zret dX10_holdAt_77 rfl (by first | exact Or.inl rfl | exact Or.inr rfl | assumption | (split <;> simp) | omega) ?_
        refine ⟨rfl, _, rfl, Or.inl ⟨rfl, fun w hw hrw => ?_⟩, rfl⟩
        obtain ⟨i', h1, h2, h3⟩ := hout w hw hrw
        exact hdn i' h1 h2 w h3
      · omega
    | succ e ih =>
      intro i u3 hi hai hdn
      obtain ⟨w, hw, hiw, hrw⟩ := hin i hai (by omega)
      obtain ⟨l, c, e0, e1, hl1, hl4, hc⟩ := hr.at hw
      have c23 := hf.2.2 0 w (by decide) hw
      have c24 := hf.2.2 1 w (by decide) hw
      have c25 := hf.2.2 2 w (by decide) hw
      have c26 := hf.2.2 3 w (by decide) hw
      refine z_kill 3 ?_
      dsimp only [List.set]
      refine z_iload_n dX10_holdAt_17 rfl ?_
      refine z_aload_n dX10_holdAt_18 rfl ?_
      refine z_getR (ty := .int) dX10_holdAt_19 fl_X10_39 (by first | rfl | assumption) rfl rfl ?_
      refine z_iload_n dX10_holdAt_22 rfl ?_
      refine z_iald dX10_holdAt_23 (by first | rfl | assumption) (by omega) (by omega) ?_
      rw [hb]
      refine z_icmp_ge 76 dX10_holdAt_24 (by decide) (fun h24 => ?_) (fun h24 => ?_)
      · omega
      · refine z_aload_n dX10_holdAt_27 rfl ?_
        refine z_getR (ty := .int) dX10_holdAt_28 fl_X10_36 (by first | rfl | assumption) rfl rfl ?_
        refine z_iload_n dX10_holdAt_31 rfl ?_
        refine z_iald dX10_holdAt_32 (by first | rfl | assumption) (by omega) (by omega) ?_
        rw [hiw]
        refine z_istore_n dX10_holdAt_33 (by decide) rfl ?_
        dsimp only [List.set]
        refine z_aload_n dX10_holdAt_34 rfl ?_
        refine z_aload_n dX10_holdAt_35 rfl ?_
        refine z_getR (ty := .int) dX10_holdAt_36 fl_X10_11 (by first | rfl | assumption) rfl rfl ?_
        refine z_iload_n dX10_holdAt_39 rfl ?_
        refine z_iald dX10_holdAt_40 (by first | rfl | assumption) (by omega) (by omega) ?_
        rw [c23, e0]
        refine z_aload_n dX10_holdAt_41 rfl ?_
        refine z_getR (ty := .int) dX10_holdAt_42 fl_X10_15 (by first | rfl | assumption) rfl rfl ?_
        refine z_iload_n dX10_holdAt_45 rfl ?_
        refine z_iald dX10_holdAt_46 (by first | rfl | assumption) (by omega) (by omega) ?_
        rw [c24, e1]
        refine z_V2i dX10_holdAt_47 ok_X10_valueOf lk_X10_77 (by first | rfl | assumption) rfl rfl (Nat.le_of_ble_eq_true rfl) (by decide) (cm_X10_valueOf hg hl4 hc) (fun z1 m1 hm1 => ?_)
        obtain ⟨rfl, hmm⟩ := hm1
        subst hmm
        refine z_aload_n dX10_holdAt_50 rfl ?_
        refine z_getR (ty := .int) dX10_holdAt_51 fl_X10_18 (by first | rfl | assumption) rfl rfl ?_
        refine z_iload_n dX10_holdAt_54 rfl ?_
        refine z_iald dX10_holdAt_55 (by first | rfl | assumption) (by omega) (by omega) ?_
        rw [c25]
        refine z_aload_n dX10_holdAt_56 rfl ?_
        refine z_getR (ty := .int) dX10_holdAt_57 fl_X10_21 (by first | rfl | assumption) rfl rfl ?_
        refine z_iload_n dX10_holdAt_60 rfl ?_
        refine z_iald dX10_holdAt_61 (by first | rfl | assumption) (by omega) (by omega) ?_
        rw [c26]
        refine z_S3i dX10_holdAt_62 ok_X11_within lk_X10_42 (Nat.le_of_ble_eq_true rfl) (by decide) (cm_X11_within) (fun z2 m2 hm2 => ?_)
        obtain ⟨hz2, hmm⟩ := hm2
        subst hmm
        refine z_if_ne 70 dX10_holdAt_65 (by decide) (fun h65 => ?_) (fun h65 => ?_)
        · have ok := hz2.yes h65
          refine z_iinc dX10_holdAt_70 rfl (by omega) (by decide) rfl ?_
          dsimp only [List.set]
          refine z_goto 17 dX10_holdAt_73 (by decide) ?_
          refine ih (i + 1) _ (by omega) (by omega) (fun i' h1 h2 w' hw' => ?_)
          by_cases q : i' = i
          · subst q
            have : w' = w := by omega
            subst this
            unfold okWP
            rw [e0, e1, Int.toNat_natCast, Int.toNat_natCast]
            exact ok
          · exact hdn i' h1 (by omega) w' hw'
        · have no := hz2.no h65
          refine z_iconst dX10_holdAt_68 (by decide) ?_
          refine z_zret dX10_holdAt_69 rfl (by first | exact Or.inl rfl | exact Or.inr rfl | assumption | (split <;> simp) | omega) ?_
          refine ⟨rfl, _, rfl, Or.inr ⟨rfl, fun q => no ?_⟩, rfl⟩
          have := q w hw hrw
          unfold okWP at this
          rw [e0, e1, Int.toNat_natCast, Int.toNat_natCast] at this
          exact this
  refine z_iload_n dX10_holdAt_0 rfl ?_
  refine z_if_ne 8 dX10_holdAt_1 (by decide) (fun h1 => ?_) (fun h1 => ?_)
  · have h32 := ha1 (by omega)
    refine z_aload_n dX10_holdAt_8 rfl ?_
    refine z_getR (ty := .int) dX10_holdAt_9 fl_X10_39 (by first | rfl | assumption) rfl rfl ?_
    refine z_iload_n dX10_holdAt_12 rfl ?_
    refine z_iconst dX10_holdAt_13 (by decide) ?_
    refine z_isub dX10_holdAt_14 (by omega) ?_
    rw [show (d : Int) - 1 = ((d - 1 : Nat) : Int) by omega]
    refine z_iald dX10_holdAt_15 (by first | rfl | assumption) (by omega) (by omega) ?_
    rw [h32]
    refine z_istore_n dX10_holdAt_16 (by decide) rfl ?_
    dsimp only [List.set]
    first
    | exact loop (b - a) a _ (by omega) (Nat.le_refl _) (fun i' h1 h2 => by omega)
    | exact loop b 0 _ (by omega) (by have := ha0 hd0; omega) (fun i' h1 h2 => by omega)
  · have hd0 : d = 0 := by omega
    refine z_iconst dX10_holdAt_4 (by decide) ?_
    refine z_goto 16 dX10_holdAt_5 (by decide) ?_
    refine z_istore_n dX10_holdAt_16 (by decide) rfl ?_
    dsimp only [List.set]
    first
    | exact loop (b - a) a _ (by omega) (Nat.le_refl _) (fun i' h1 h2 => by omega)
    | exact loop b 0 _ (by omega) (by have := ha0 hd0; omega) (fun i' h1 h2 => by omega)
end Ripe
