section FracB
variable {X : Nat × (Int → Int)} {G : List GC} {F : Nat} {mem : Mem}
def isF (G : List GC) (F : Nat) : Prop := G[F]? = some (0, 4, [some (F + 1), some (F + 3), some (F + 5), some (F + 7)]) ∧ isN G (F + 1) ∧ isN G (F + 3) ∧ isN G (F + 5) ∧ isN G (F + 7)
def fracAt (mem : Mem) (F a b : Nat) : Prop := natAt mem (F + 1) a ∧ natAt mem (F + 3) b
/-- only the numbers of the fraction have changed -/
def onF (F : Nat) (mem mem' : Mem) : Prop := ∀ x, x < F + 1 ∨ F + 9 ≤ x → mem' x = mem x
theorem onF.of {o : Nat} {m1 m2 : Mem} (h : onN o m1 m2) (ho : F + 1 ≤ o ∧ o + 1 < F + 9) : onF F m1 m2 := fun x hx => h x (by omega) (by omega)
theorem onF.tr {m1 m2 m3 : Mem} (h1 : onF F m1 m2) (h2 : onF F m2 m3) : onF F m1 m3 := fun x hx => (h2 x hx).trans (h1 x hx)
theorem onF.rf : onF F mem mem := fun _ _ => rfl
theorem cm_X4_become {a b : Nat} (hF : isF G F) (ha : (a : Int) < 9223372036854775808) (hb : (b : Int) < 9223372036854775808) (hb0 : 0 < b) : CM X (0, 0) 2 mX4_become G [vr F, vl (a : Int), vl (b : Int)] mem (pV G fun m => fracAt m F (a / Nat.gcd a b) (b / Nat.gcd a b) ∧ onF F mem m) := by
  obtain ⟨hg, hA, hB, -, -⟩ := hF
  have hA1 := hA.1
  have hB1 := hB.1
  have hgp : 0 < Nat.gcd a b := Nat.gcd_pos_of_pos_right _ hb0
  have hga : a / Nat.gcd a b ≤ a := Nat.div_le_self _ _
  have hgb : b / Nat.gcd a b ≤ b := Nat.div_le_self _ _
  refine CM.of (by decide +kernel) 2 (Nat.le_of_ble_eq_true rfl) ?_
  show ZZ X (0, 0) 2 mX4_become G 0 [vr F, vl (a : Int), vd, vl (b : Int), vd, vd, vd] [] mem _
  refine z_lload_n dX4_become_0 rfl ?_
  refine z_lload_n dX4_become_1 rfl ?_
  refine z_S2l dX4_become_2 ok_X11_commonMeasure lk_X4_29 (Nat.le_of_ble_eq_true rfl) (by decide) (cm_X11_commonMeasure ha (by omega)) (fun z m1 hm => ?_)
  obtain ⟨rfl, rfl⟩ := hm
  refine z_lstore dX4_become_5 (by decide) rfl ?_
  dsimp only [List.set]
  refine z_lload dX4_become_7 rfl ?_
  refine z_lconst (z := 0) dX4_become_9 rfl (by decide) ?_
  refine z_lcmp dX4_become_10 ?_
  refine z_if_le 42 dX4_become_11 (by decide) (fun h11 => ?_) (fun h11 => ?_)
  · rw [lc_le] at h11
    omega
  · rw [lc_le] at h11
    refine z_lload_n dX4_become_14 rfl ?_
    refine z_lconst (z := 0) dX4_become_15 rfl (by decide) ?_
    refine z_lcmp dX4_become_16 ?_
    refine z_if_le 42 dX4_become_17 (by decide) (fun h17 => ?_) (fun h17 => ?_)
    · rw [lc_le] at h17
      omega
    · rw [lc_le] at h17
      refine z_aload_n dX4_become_20 rfl ?_
      refine z_getR (ty := .int) dX4_become_21 fl_X4_10 (by first | rfl | assumption) rfl rfl ?_
      refine z_lload_n dX4_become_24 rfl ?_
      refine z_lload dX4_become_25 rfl ?_
      refine z_ldiv dX4_become_27 (by omega) (by omega) ?_
      rw [← Int.natCast_ediv]
      refine z_V1v dX4_become_28 ok_X8_become lk_X4_25 (by first | rfl | assumption) rfl rfl (Nat.le_of_ble_eq_true rfl) (by decide) (cm_X8_become hA (Int.natCast_nonneg _) (Int.lt_of_le_of_lt (Int.ofNat_le.mpr hga) ha)) (fun m2 hm2 => ?_)
      obtain ⟨n1, on1⟩ := hm2
      rw [Int.toNat_natCast] at n1
      refine z_aload_n dX4_become_31 rfl ?_
      refine z_getR (ty := .int) dX4_become_32 fl_X4_16 (by first | rfl | assumption) rfl rfl ?_
      refine z_lload_n dX4_become_35 rfl ?_
      refine z_lload dX4_become_36 rfl ?_
      refine z_ldiv dX4_become_38 (by omega) (by omega) ?_
      rw [← Int.natCast_ediv]
      refine z_V1v dX4_become_39 ok_X8_become lk_X4_25 (by first | rfl | assumption) rfl rfl (Nat.le_of_ble_eq_true rfl) (by decide) (cm_X8_become hB (Int.natCast_nonneg _) (Int.lt_of_le_of_lt (Int.ofNat_le.mpr hgb) hb)) (fun m3 hm3 => ?_)
      obtain ⟨n2, on2⟩ := hm3
      rw [Int.toNat_natCast] at n2
      refine z_vret dX4_become_42 rfl ?_
      exact ⟨rfl, rfl, ⟨n1.off on2 (by omega) (by omega) (by omega), n2⟩, (onF.of on1 (by omega)).tr (onF.of on2 (by omega))⟩
theorem cm_X4_becomeOneBy {p b : Nat} (hF : isF G F) (hM : isN G p) (hb : natAt mem p b) (hap : p + 1 < F + 1 ∨ F + 9 ≤ p) : CM X (0, 0) 2 mX4_becomeOneBy G [vr F, vr p] mem (pV G fun m => fracAt m F 1 b ∧ onF F mem m) := by
  obtain ⟨hg, hA, hB, -, -⟩ := hF
  have hA1 := hA.1
  have hB1 := hB.1
  refine CM.of (by decide +kernel) 0 (Nat.le_of_ble_eq_true rfl) ?_
  show ZZ X (0, 0) 2 mX4_becomeOneBy G 0 [vr F, vr p] [] mem _
  refine z_aload_n dX4_becomeOneBy_0 rfl ?_
  refine z_getR (ty := .int) dX4_becomeOneBy_1 fl_X4_10 (by first | rfl | assumption) rfl rfl ?_
  refine z_lconst (z := 1) dX4_becomeOneBy_4 rfl (by decide) ?_
  refine z_V1v dX4_becomeOneBy_5 ok_X8_become lk_X4_25 (by first | rfl | assumption) rfl rfl (Nat.le_of_ble_eq_true rfl) (by decide) (cm_X8_become hA (by decide) (by decide)) (fun m2 hm2 => ?_)
  obtain ⟨n1, on1⟩ := hm2
  refine z_aload_n dX4_becomeOneBy_8 rfl ?_
  refine z_getR (ty := .int) dX4_becomeOneBy_9 fl_X4_16 (by first | rfl | assumption) rfl rfl ?_
  refine z_aload_n dX4_becomeOneBy_12 rfl ?_
  refine z_V1v dX4_becomeOneBy_13 ok_X8_copy lk_X4_35 (by first | rfl | assumption) rfl rfl (Nat.le_of_ble_eq_true rfl) (by decide) (cm_X8_copy hB hM (hb.off on1 (by omega) (by omega) (by omega)) (by omega)) (fun m3 hm3 => ?_)
  obtain ⟨n2, on2⟩ := hm3
  refine z_vret dX4_becomeOneBy_16 rfl ?_
  exact ⟨rfl, rfl, ⟨n1.off on2 (by omega) (by omega) (by omega), n2⟩, (onF.of on1 (by omega)).tr (onF.of on2 (by omega))⟩
theorem cm_X4_times {a b f : Nat} (hF : isF G F) (hfr : fracAt mem F a b) (hf0 : 0 < f) (hf : f < 1073741824) (hbd : ((a * f : Nat) : Int) < zB ^ 64) : CM X (0, 0) 2 mX4_times G [vr F, vi (f : Int)] mem (pV G fun m => fracAt m F (a * (f / Nat.gcd f b)) (b / Nat.gcd f b) ∧ onF F mem m) := by
  obtain ⟨hg, hA, hB, -, -⟩ := hF
  have hA1 := hA.1
  have hB1 := hB.1
  obtain ⟨h1, h2⟩ := hfr
  have hgp : 0 < Nat.gcd f b := Nat.gcd_pos_of_pos_left _ hf0
  have hgf : Nat.gcd f b ≤ f := Nat.gcd_le_left _ hf0
  have hgd : f / Nat.gcd f b ≤ f := Nat.div_le_self _ _
  have hml := Nat.mod_lt b hf0
  have hgm : Nat.gcd f (b % f) = Nat.gcd f b := by rw [Nat.gcd_rec f b, Nat.gcd_comm]
  refine CM.of (by decide +kernel) 1 (Nat.le_of_ble_eq_true rfl) ?_
  show ZZ X (0, 0) 2 mX4_times G 0 [vr F, vi (f : Int), vd] [] mem _
  refine z_iload_n dX4_times_0 rfl ?_
  refine z_i2l dX4_times_1 ?_
  refine z_aload_n dX4_times_2 rfl ?_
  refine z_getR (ty := .int) dX4_times_3 fl_X4_16 (by first | rfl | assumption) rfl rfl ?_
  refine z_iload_n dX4_times_6 rfl ?_
  refine z_V1i dX4_times_7 ok_X8_remainder lk_X4_42 (by first | rfl | assumption) rfl rfl (Nat.le_of_ble_eq_true rfl) (by decide) (cm_X8_remainder hB h2 (by omega) (by omega)) (fun z m1 hm => ?_)
  obtain ⟨rfl, rfl⟩ := hm
  rw [← Int.natCast_emod]
  refine z_i2l dX4_times_10 ?_
  refine z_S2l dX4_times_11 ok_X11_commonMeasure lk_X4_29 (Nat.le_of_ble_eq_true rfl) (by decide) (cm_X11_commonMeasure (by omega) (by omega)) (fun z m2 hm => ?_)
  obtain ⟨rfl, rfl⟩ := hm
  rw [hgm]
  refine z_l2i dX4_times_14 (by omega) ?_
  refine z_istore_n dX4_times_15 (by decide) rfl ?_
  dsimp only [List.set]
  refine z_iload_n dX4_times_16 rfl ?_
  refine z_if_le 38 dX4_times_17 (by decide) (fun h17 => ?_) (fun h17 => ?_)
  · omega
  · refine z_aload_n dX4_times_20 rfl ?_
    refine z_getR (ty := .int) dX4_times_21 fl_X4_16 (by first | rfl | assumption) rfl rfl ?_
    refine z_iload_n dX4_times_24 rfl ?_
    refine z_V1v dX4_times_25 ok_X8_divide lk_X4_46 (by first | rfl | assumption) rfl rfl (Nat.le_of_ble_eq_true rfl) (by decide) (cm_X8_divide hB h2 (by omega) (by omega)) (fun m3 hm3 => ?_)
    obtain ⟨n2, on2⟩ := hm3
    rw [Int.toNat_natCast] at n2
    refine z_aload_n dX4_times_28 rfl ?_
    refine z_getR (ty := .int) dX4_times_29 fl_X4_10 (by first | rfl | assumption) rfl rfl ?_
    refine z_iload_n dX4_times_32 rfl ?_
    refine z_iload_n dX4_times_33 rfl ?_
    refine z_idiv dX4_times_34 (by omega) (by omega) ?_
    rw [← Int.natCast_ediv]
    refine z_V1v dX4_times_35 ok_X8_multiply lk_X4_50 (by first | rfl | assumption) rfl rfl (Nat.le_of_ble_eq_true rfl) (by decide) (cm_X8_multiply hA (h1.off on2 (by omega) (by omega) (by omega)) (Int.natCast_nonneg _) (by omega) (by refine Int.lt_of_le_of_lt ?_ hbd; rw [← Int.natCast_mul]; exact Int.ofNat_le.mpr (Nat.mul_le_mul_left a hgd))) (fun m4 hm4 => ?_)
    obtain ⟨n1, on1⟩ := hm4
    rw [Int.toNat_natCast] at n1
    refine z_vret dX4_times_38 rfl ?_
    exact ⟨rfl, rfl, ⟨n1, n2.off on1 (by omega) (by omega) (by omega)⟩, (onF.of on2 (by omega)).tr (onF.of on1 (by omega))⟩
theorem gcd_odd_mul {s t k : Nat} (ht : t % 2 = 1) : Nat.gcd (2 ^ k * s) t = Nat.gcd s t := Nat.Coprime.gcd_mul_left_cancel s (cop_odd ht)
theorem gcd_twos {s t i j : Nat} (hs : s % 2 = 1) (ht : t % 2 = 1) : Nat.gcd (2 ^ i * s) (2 ^ j * t) = 2 ^ (min i j) * Nat.gcd s t := by
  by_cases h : i ≤ j
  · obtain ⟨d, rfl⟩ := Nat.exists_eq_add_of_le h
    rw [Nat.min_eq_left h, Nat.pow_add, Nat.mul_assoc, Nat.gcd_mul_left, Nat.gcd_comm s, gcd_odd_mul hs, Nat.gcd_comm]
  · obtain ⟨d, rfl⟩ := Nat.exists_eq_add_of_le (show j ≤ i by omega)
    rw [Nat.min_eq_right (by omega), Nat.pow_add, Nat.mul_assoc, Nat.gcd_mul_left, gcd_odd_mul ht]
/-- one turn of the measuring: the greater less the less, without its twos -/
theorem gcd_turn {x y k t : Nat} (hx : x % 2 = 1) (hy : y % 2 = 1) (hlt : y < x) (h : x - y = 2 ^ k * (2 * t + 1)) : Nat.gcd (2 * t + 1) y = Nat.gcd x y ∧ 2 * (2 * t + 1) ≤ x := by
  constructor
  · have e : Nat.gcd (x - y) y = Nat.gcd x y := by
      rw [Nat.gcd_sub_self_left (by omega)]
    rw [← e, h, gcd_odd_mul hy]
  · have hk : k ≠ 0 := by
      intro q
      subst q
      omega
    obtain ⟨k', rfl⟩ : ∃ k', k = k' + 1 := ⟨k - 1, by omega⟩
    have : 2 * (2 * t + 1) ≤ 2 ^ (k' + 1) * (2 * t + 1) := Nat.mul_le_mul_right _ (by rw [Nat.pow_succ]; have := Nat.two_pow_pos k'; omega)
    omega
theorem natAt_lt {o v : Nat} (h : natAt mem o v) : v < 2 ^ 1920 := by
  obtain ⟨n, -, hn, hd, hv, -⟩ := h
  have h1 := nv_lt hd
  have h2 := zB_le hn
  have : (v : Int) < ((1073741824 ^ 64 : Nat) : Int) := by rw [Int.natCast_pow, ← hv]; exact Int.lt_of_lt_of_le h1 h2
  have e : (1073741824 : Nat) ^ 64 = 2 ^ 1920 := by decide +kernel
  rw [← e]
  exact Int.ofNat_lt.mp this
theorem twos_lt {v k t : Nat} (h : v = 2 ^ k * (2 * t + 1)) (hv : v < 2 ^ 1920) : k < 1920 := by
  have h1 : 2 ^ k ≤ 2 ^ k * (2 * t + 1) := Nat.le_mul_of_pos_right _ (by omega)
  exact (Nat.pow_lt_pow_iff_right (a := 2) (by decide)).mp (Nat.lt_of_le_of_lt h1 (h ▸ hv))
theorem drop_twos {v k t : Nat} (h : v = 2 ^ k * (2 * t + 1)) : v / 2 ^ k = 2 * t + 1 := by
  rw [h, Nat.mul_div_cancel_left _ (Nat.two_pow_pos k)]
theorem cm_X4_measureOdd {a b : Nat} (hF : isF G F) (hfr : fracAt mem F a b) (ha0 : 0 < a) (hb0 : 0 < b) {i j s t : Nat} (ha : a = 2 ^ i * (2 * s + 1)) (hb : b = 2 ^ j * (2 * t + 1)) : CM X (0, 0) 2 mX4_measureOdd G [vr F] mem (pV G fun m => fracAt m F a b ∧ natAt m (F + 5) (Nat.gcd (2 * s + 1) (2 * t + 1)) ∧ onF F mem m) := by
  obtain ⟨hg, hA, hB, hL, hR⟩ := hF
  have hA1 := hA.1
  have hB1 := hB.1
  have hL1 := hL.1
  have hR1 := hR.1
  obtain ⟨h1, h2⟩ := hfr
  have uniq : ∀ {v k k' s s' : Nat}, v = 2 ^ k * (2 * s + 1) → v = 2 ^ k' * (2 * s' + 1) → s' = s := by
    intro v k k' s s' e1 e2
    have : k = k' := by
      rcases Nat.lt_trichotomy k k' with q | q | q
      · obtain ⟨d, rfl⟩ : ∃ d, k' = k + (d + 1) := ⟨k' - k - 1, by omega⟩
        rw [e1, Nat.pow_add, Nat.mul_assoc] at e2
        have := Nat.eq_of_mul_eq_mul_left (Nat.two_pow_pos k) e2
        rw [Nat.pow_succ, Nat.mul_comm (2 ^ d) 2, Nat.mul_assoc] at this
        omega
      · exact q
      · obtain ⟨d, rfl⟩ : ∃ d, k = k' + (d + 1) := ⟨k - k' - 1, by omega⟩
        rw [e1, Nat.pow_add, Nat.mul_assoc] at e2
        have := Nat.eq_of_mul_eq_mul_left (Nat.two_pow_pos k') e2
        rw [Nat.pow_succ, Nat.mul_comm (2 ^ d) 2, Nat.mul_assoc] at this
        omega
    subst this
    rw [e1] at e2
    have := Nat.eq_of_mul_eq_mul_left (Nat.two_pow_pos k) e2
    omega
  refine CM.of (by decide +kernel) 3 (Nat.le_of_ble_eq_true rfl) ?_
  show ZZ X (0, 0) 2 mX4_measureOdd G 0 [vr F, vd, vd, vd] [] mem _
  have loop : ∀ (N p q x y : Nat) (c : Int) (m : Mem) (w : VV), p + q = N → N ≤ 3840 → x % 2 = 1 → y % 2 = 1 → x < 2 ^ p → y < 2 ^ q → 0 ≤ c → c + (N : Int) ≤ 3840 → Nat.gcd x y = Nat.gcd (2 * s + 1) (2 * t + 1) → fracAt m F a b → natAt m (F + 5) x → natAt m (F + 7) y → onF F mem m → (∀ z, w ≠ vl z) →
      ZZ X (0, 0) 2 mX4_measureOdd G 64 [vr F, vi (if x < y then -1 else if x = y then 0 else 1), vi c, w] [] m (pV G fun m => fracAt m F a b ∧ natAt m (F + 5) (Nat.gcd (2 * s + 1) (2 * t + 1)) ∧ onF F mem m) := by
    intro N
    induction N with
    | zero =>
      intro p q x y c m w hpq hN hx hy hxp hyq hc0 hc hgcd hfm hl hr hon hw
      have : p = 0 := by omega
      subst this
      rw [Nat.pow_zero] at hxp
      omega
    | succ N ih =>
      intro p q x y c m w hpq hN hx hy hxp hyq hc0 hc hgcd hfm hl hr hon hw
      refine z_kill 3 ?_
      dsimp only [List.set]
      obtain ⟨f1, f2⟩ := hfm
      by_cases hxy : x < y
      · rw [if_pos hxy]
        have hq0 : q ≠ 0 := by intro w; subst w; rw [Nat.pow_zero] at hyq; omega
        obtain ⟨q', rfl⟩ : ∃ q', q = q' + 1 := ⟨q - 1, by omega⟩
        rw [Nat.pow_succ] at hyq
        refine z_iload_n dX4_measureOdd_64 rfl ?_
        refine z_sipush dX4_measureOdd_65 (by decide) ?_
        refine z_icmp_ge 136 dX4_measureOdd_68 (by decide) (fun h68 => ?_) (fun h68 => ?_)
        · omega
        · refine z_iload_n dX4_measureOdd_71 rfl ?_
          refine z_if_eq 136 dX4_measureOdd_72 (by decide) (fun h72 => ?_) (fun h72 => ?_)
          · omega
          · refine z_iload_n dX4_measureOdd_75 rfl ?_
            refine z_if_le 86 dX4_measureOdd_76 (by decide) (fun h76 => ?_) (fun h76 => ?_)
            · refine z_aload_n dX4_measureOdd_86 rfl ?_
              refine z_getR (ty := .int) dX4_measureOdd_87 fl_X4_22 (by first | rfl | assumption) rfl rfl ?_
              refine z_astore_n dX4_measureOdd_90 (by decide) rfl ?_
              dsimp only [List.set]
              refine z_aload_n dX4_measureOdd_91 rfl ?_
              refine z_iload_n dX4_measureOdd_92 rfl ?_
              refine z_if_le 103 dX4_measureOdd_93 (by decide) (fun h93 => ?_) (fun h93 => ?_)
              · refine z_aload_n dX4_measureOdd_103 rfl ?_
                refine z_getR (ty := .int) dX4_measureOdd_104 fl_X4_19 (by first | rfl | assumption) rfl rfl ?_
                refine z_V1v dX4_measureOdd_107 ok_X8_subtract lk_X4_80 (by first | rfl | assumption) rfl rfl (Nat.le_of_ble_eq_true rfl) (by decide) (cm_X8_subtract hR hL hr hl (by omega) (by omega)) (fun m1 hm1 => ?_)
                obtain ⟨n1, on1⟩ := hm1
                refine z_aload_n dX4_measureOdd_110 rfl ?_
                refine z_aload_n dX4_measureOdd_111 rfl ?_
                refine z_V0i dX4_measureOdd_112 ok_X8_twos lk_X4_57 (by first | rfl | assumption) rfl rfl (Nat.le_of_ble_eq_true rfl) (by decide) (cm_X8_twos hR n1 (by omega)) (fun z m2 hm2 => ?_)
                obtain ⟨⟨k, t', rfl, hkt⟩, rfl⟩ := hm2
                have hk := twos_lt hkt (natAt_lt n1)
                refine z_V1v dX4_measureOdd_115 ok_X8_dropBits lk_X4_67 (by first | rfl | assumption) rfl rfl (Nat.le_of_ble_eq_true rfl) (by decide) (cm_X8_dropBits hR n1 (by omega)) (fun m3 hm3 => ?_)
                obtain ⟨n2, on2⟩ := hm3
                rw [drop_twos hkt] at n2
                have hl' : natAt m3 (F + 5) x := (hl.off on1 (by omega) (by omega) (by omega)).off on2 (by omega) (by omega) (by omega)
                obtain ⟨g1, g2⟩ := gcd_turn hy hx hxy hkt
                refine z_aload_n dX4_measureOdd_118 rfl ?_
                refine z_getR (ty := .int) dX4_measureOdd_119 fl_X4_19 (by first | rfl | assumption) rfl rfl ?_
                refine z_aload_n dX4_measureOdd_122 rfl ?_
                refine z_getR (ty := .int) dX4_measureOdd_123 fl_X4_22 (by first | rfl | assumption) rfl rfl ?_
                refine z_V1i dX4_measureOdd_126 ok_X8_compareWith lk_X4_76 (by first | rfl | assumption) rfl rfl (Nat.le_of_ble_eq_true rfl) (by decide) (cm_X8_compareWith hL hR hl' n2) (fun z m4 hm4 => ?_)
                obtain ⟨rfl, rfl⟩ := hm4
                refine z_istore_n dX4_measureOdd_129 (by decide) rfl ?_
                dsimp only [List.set]
                refine z_iinc dX4_measureOdd_130 rfl (by omega) (by decide) rfl ?_
                dsimp only [List.set]
                refine z_goto 64 dX4_measureOdd_133 (by decide) ?_
                refine ih p q' x (2 * t' + 1) _ _ _ (by omega) (by omega) hx (by omega) hxp (by omega) (by omega) (by omega) (by rw [← hgcd, Nat.gcd_comm, g1, Nat.gcd_comm]) ⟨(f1.off on1 (by omega) (by omega) (by omega)).off on2 (by omega) (by omega) (by omega), (f2.off on1 (by omega) (by omega) (by omega)).off on2 (by omega) (by omega) (by omega)⟩ hl' n2 ((hon.tr (onF.of on1 (by omega))).tr (onF.of on2 (by omega))) (by intro z w; cases w)
              · omega
            · omega
      · rw [if_neg hxy]
        by_cases hxe : x = y
        · subst hxe
          rw [if_pos rfl]
          rw [Nat.gcd_self] at hgcd
          refine z_iload_n dX4_measureOdd_64 rfl ?_
          refine z_sipush dX4_measureOdd_65 (by decide) ?_
          refine z_icmp_ge 136 dX4_measureOdd_68 (by decide) (fun h68 => ?_) (fun h68 => ?_)
          · refine z_vret dX4_measureOdd_136 rfl ?_
            exact ⟨rfl, rfl, ⟨f1, f2⟩, by rw [← hgcd]; exact hl, hon⟩
          · refine z_iload_n dX4_measureOdd_71 rfl ?_
            refine z_if_eq 136 dX4_measureOdd_72 (by decide) (fun h72 => ?_) (fun h72 => ?_)
            · refine z_vret dX4_measureOdd_136 rfl ?_
              exact ⟨rfl, rfl, ⟨f1, f2⟩, by rw [← hgcd]; exact hl, hon⟩
            · omega
        · rw [if_neg hxe]
          have hp0 : p ≠ 0 := by intro w; subst w; rw [Nat.pow_zero] at hxp; omega
          obtain ⟨p', rfl⟩ : ∃ p', p = p' + 1 := ⟨p - 1, by omega⟩
          rw [Nat.pow_succ] at hxp
          refine z_iload_n dX4_measureOdd_64 rfl ?_
          refine z_sipush dX4_measureOdd_65 (by decide) ?_
          refine z_icmp_ge 136 dX4_measureOdd_68 (by decide) (fun h68 => ?_) (fun h68 => ?_)
          · omega
          · refine z_iload_n dX4_measureOdd_71 rfl ?_
            refine z_if_eq 136 dX4_measureOdd_72 (by decide) (fun h72 => ?_) (fun h72 => ?_)
            · omega
            · refine z_iload_n dX4_measureOdd_75 rfl ?_
              refine z_if_le 86 dX4_measureOdd_76 (by decide) (fun h76 => ?_) (fun h76 => ?_)
              · omega
              · refine z_aload_n dX4_measureOdd_79 rfl ?_
                refine z_getR (ty := .int) dX4_measureOdd_80 fl_X4_19 (by first | rfl | assumption) rfl rfl ?_
                refine z_goto 90 dX4_measureOdd_83 (by decide) ?_
                refine z_astore_n dX4_measureOdd_90 (by decide) rfl ?_
                dsimp only [List.set]
                refine z_aload_n dX4_measureOdd_91 rfl ?_
                refine z_iload_n dX4_measureOdd_92 rfl ?_
                refine z_if_le 103 dX4_measureOdd_93 (by decide) (fun h93 => ?_) (fun h93 => ?_)
                · omega
                · refine z_aload_n dX4_measureOdd_96 rfl ?_
                  refine z_getR (ty := .int) dX4_measureOdd_97 fl_X4_22 (by first | rfl | assumption) rfl rfl ?_
                  refine z_goto 107 dX4_measureOdd_100 (by decide) ?_
                  refine z_V1v dX4_measureOdd_107 ok_X8_subtract lk_X4_80 (by first | rfl | assumption) rfl rfl (Nat.le_of_ble_eq_true rfl) (by decide) (cm_X8_subtract hL hR hl hr (by omega) (by omega)) (fun m1 hm1 => ?_)
                  obtain ⟨n1, on1⟩ := hm1
                  refine z_aload_n dX4_measureOdd_110 rfl ?_
                  refine z_aload_n dX4_measureOdd_111 rfl ?_
                  refine z_V0i dX4_measureOdd_112 ok_X8_twos lk_X4_57 (by first | rfl | assumption) rfl rfl (Nat.le_of_ble_eq_true rfl) (by decide) (cm_X8_twos hL n1 (by omega)) (fun z m2 hm2 => ?_)
                  obtain ⟨⟨k, t', rfl, hkt⟩, rfl⟩ := hm2
                  have hk := twos_lt hkt (natAt_lt n1)
                  refine z_V1v dX4_measureOdd_115 ok_X8_dropBits lk_X4_67 (by first | rfl | assumption) rfl rfl (Nat.le_of_ble_eq_true rfl) (by decide) (cm_X8_dropBits hL n1 (by omega)) (fun m3 hm3 => ?_)
                  obtain ⟨n2, on2⟩ := hm3
                  rw [drop_twos hkt] at n2
                  have hr' : natAt m3 (F + 7) y := (hr.off on1 (by omega) (by omega) (by omega)).off on2 (by omega) (by omega) (by omega)
                  obtain ⟨g1, g2⟩ := gcd_turn hx hy (by omega) hkt
                  refine z_aload_n dX4_measureOdd_118 rfl ?_
                  refine z_getR (ty := .int) dX4_measureOdd_119 fl_X4_19 (by first | rfl | assumption) rfl rfl ?_
                  refine z_aload_n dX4_measureOdd_122 rfl ?_
                  refine z_getR (ty := .int) dX4_measureOdd_123 fl_X4_22 (by first | rfl | assumption) rfl rfl ?_
                  refine z_V1i dX4_measureOdd_126 ok_X8_compareWith lk_X4_76 (by first | rfl | assumption) rfl rfl (Nat.le_of_ble_eq_true rfl) (by decide) (cm_X8_compareWith hL hR n2 hr') (fun z m4 hm4 => ?_)
                  obtain ⟨rfl, rfl⟩ := hm4
                  refine z_istore_n dX4_measureOdd_129 (by decide) rfl ?_
                  dsimp only [List.set]
                  refine z_iinc dX4_measureOdd_130 rfl (by omega) (by decide) rfl ?_
                  dsimp only [List.set]
                  refine z_goto 64 dX4_measureOdd_133 (by decide) ?_
                  refine ih p' q (2 * t' + 1) y _ _ _ (by omega) (by omega) (by omega) hy (by omega) hyq (by omega) (by omega) (by rw [← hgcd, g1]) ⟨(f1.off on1 (by omega) (by omega) (by omega)).off on2 (by omega) (by omega) (by omega), (f2.off on1 (by omega) (by omega) (by omega)).off on2 (by omega) (by omega) (by omega)⟩ n2 hr' ((hon.tr (onF.of on1 (by omega))).tr (onF.of on2 (by omega))) (by intro z w; cases w)
  refine z_aload_n dX4_measureOdd_0 rfl ?_
  refine z_getR (ty := .int) dX4_measureOdd_1 fl_X4_19 (by first | rfl | assumption) rfl rfl ?_
  refine z_aload_n dX4_measureOdd_4 rfl ?_
  refine z_getR (ty := .int) dX4_measureOdd_5 fl_X4_10 (by first | rfl | assumption) rfl rfl ?_
  refine z_V1v dX4_measureOdd_8 ok_X8_copy lk_X4_35 (by first | rfl | assumption) rfl rfl (Nat.le_of_ble_eq_true rfl) (by decide) (cm_X8_copy hL hA h1 (by omega)) (fun m1 hm1 => ?_)
  obtain ⟨n1, on1⟩ := hm1
  refine z_aload_n dX4_measureOdd_11 rfl ?_
  refine z_getR (ty := .int) dX4_measureOdd_12 fl_X4_19 (by first | rfl | assumption) rfl rfl ?_
  refine z_aload_n dX4_measureOdd_15 rfl ?_
  refine z_getR (ty := .int) dX4_measureOdd_16 fl_X4_19 (by first | rfl | assumption) rfl rfl ?_
  refine z_V0i dX4_measureOdd_19 ok_X8_twos lk_X4_57 (by first | rfl | assumption) rfl rfl (Nat.le_of_ble_eq_true rfl) (by decide) (cm_X8_twos hL n1 ha0) (fun z m2 hm2 => ?_)
  obtain ⟨⟨k1, t1, rfl, hk1⟩, rfl⟩ := hm2
  have hlt1 := twos_lt hk1 (natAt_lt n1)
  refine z_V1v dX4_measureOdd_22 ok_X8_dropBits lk_X4_67 (by first | rfl | assumption) rfl rfl (Nat.le_of_ble_eq_true rfl) (by decide) (cm_X8_dropBits hL n1 (by omega)) (fun m3 hm3 => ?_)
  obtain ⟨n2, on2⟩ := hm3
  rw [drop_twos hk1] at n2
  rw [uniq ha hk1] at n2
  refine z_aload_n dX4_measureOdd_25 rfl ?_
  refine z_getR (ty := .int) dX4_measureOdd_26 fl_X4_22 (by first | rfl | assumption) rfl rfl ?_
  refine z_aload_n dX4_measureOdd_29 rfl ?_
  refine z_getR (ty := .int) dX4_measureOdd_30 fl_X4_16 (by first | rfl | assumption) rfl rfl ?_
  refine z_V1v dX4_measureOdd_33 ok_X8_copy lk_X4_35 (by first | rfl | assumption) rfl rfl (Nat.le_of_ble_eq_true rfl) (by decide) (cm_X8_copy hR hB ((h2.off on1 (by omega) (by omega) (by omega)).off on2 (by omega) (by omega) (by omega)) (by omega)) (fun m4 hm4 => ?_)
  obtain ⟨n3, on3⟩ := hm4
  refine z_aload_n dX4_measureOdd_36 rfl ?_
  refine z_getR (ty := .int) dX4_measureOdd_37 fl_X4_22 (by first | rfl | assumption) rfl rfl ?_
  refine z_aload_n dX4_measureOdd_40 rfl ?_
  refine z_getR (ty := .int) dX4_measureOdd_41 fl_X4_22 (by first | rfl | assumption) rfl rfl ?_
  refine z_V0i dX4_measureOdd_44 ok_X8_twos lk_X4_57 (by first | rfl | assumption) rfl rfl (Nat.le_of_ble_eq_true rfl) (by decide) (cm_X8_twos hR n3 hb0) (fun z m5 hm5 => ?_)
  obtain ⟨⟨k2, t2, rfl, hk2⟩, rfl⟩ := hm5
  have hlt2 := twos_lt hk2 (natAt_lt n3)
  refine z_V1v dX4_measureOdd_47 ok_X8_dropBits lk_X4_67 (by first | rfl | assumption) rfl rfl (Nat.le_of_ble_eq_true rfl) (by decide) (cm_X8_dropBits hR n3 (by omega)) (fun m6 hm6 => ?_)
  obtain ⟨n4, on4⟩ := hm6
  rw [drop_twos hk2] at n4
  rw [uniq hb hk2] at n4
  have n2' : natAt m6 (F + 5) (2 * s + 1) := (n2.off on3 (by omega) (by omega) (by omega)).off on4 (by omega) (by omega) (by omega)
  refine z_aload_n dX4_measureOdd_50 rfl ?_
  refine z_getR (ty := .int) dX4_measureOdd_51 fl_X4_19 (by first | rfl | assumption) rfl rfl ?_
  refine z_aload_n dX4_measureOdd_54 rfl ?_
  refine z_getR (ty := .int) dX4_measureOdd_55 fl_X4_22 (by first | rfl | assumption) rfl rfl ?_
  refine z_V1i dX4_measureOdd_58 ok_X8_compareWith lk_X4_76 (by first | rfl | assumption) rfl rfl (Nat.le_of_ble_eq_true rfl) (by decide) (cm_X8_compareWith hL hR n2' n4) (fun z m7 hm7 => ?_)
  obtain ⟨rfl, rfl⟩ := hm7
  refine z_istore_n dX4_measureOdd_61 (by decide) rfl ?_
  dsimp only [List.set]
  refine z_iconst dX4_measureOdd_62 (by decide) ?_
  refine z_istore_n dX4_measureOdd_63 (by decide) rfl ?_
  dsimp only [List.set]
  exact loop 3840 1920 1920 (2 * s + 1) (2 * t + 1) 0 _ _ (by omega) (by omega) (by omega) (by omega) (natAt_lt n2') (natAt_lt n4) (by omega) (by omega) rfl ⟨(((h1.off on1 (by omega) (by omega) (by omega)).off on2 (by omega) (by omega) (by omega)).off on3 (by omega) (by omega) (by omega)).off on4 (by omega) (by omega) (by omega), (((h2.off on1 (by omega) (by omega) (by omega)).off on2 (by omega) (by omega) (by omega)).off on3 (by omega) (by omega) (by omega)).off on4 (by omega) (by omega) (by omega)⟩ n2' n4 ((((onF.of on1 (by omega)).tr (onF.of on2 (by omega))).tr (onF.of on3 (by omega))).tr (onF.of on4 (by omega))) (by intro z w; cases w)
end FracB
