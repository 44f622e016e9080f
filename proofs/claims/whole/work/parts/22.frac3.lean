section FracC
variable {X : Nat × (Int → Int)} {G : List GC} {F : Nat} {mem : Mem}
/-- lower: the fraction in lowest terms -/
theorem cm_X4_lower {a b : Nat} (hF : isF G F) (hfr : fracAt mem F a b) (hb0 : 0 < b) : CM X (0, 0) 3 mX4_lower G [vr F] mem (pV G fun m => fracAt m F (a / Nat.gcd a b) (b / Nat.gcd a b) ∧ onF F mem m) := by
  have hF' := hF
  obtain ⟨hg, hA, hB, hL, hR⟩ := hF
  have hA1 := hA.1
  have hB1 := hB.1
  have hL1 := hL.1
  have hR1 := hR.1
  obtain ⟨h1, h2⟩ := hfr
  obtain ⟨n, hs, hn, hd, hvv, htop⟩ := id h1
  refine CM.of (by decide +kernel) 1 (Nat.le_of_ble_eq_true rfl) ?_
  show ZZ X (0, 0) 3 mX4_lower G 0 [vr F, vd] [] mem _
  by_cases ha0 : a = 0
  · have hn0 : n = 0 := by
      have := nv_top hd htop (k := 0) (by rw [hvv, ha0]; decide)
      omega
    subst ha0
    rw [Nat.gcd_zero_left, Nat.zero_div, Nat.div_self hb0]
    refine z_aload_n dX4_lower_0 rfl ?_
    refine z_getR (ty := .int) dX4_lower_1 fl_X4_10 (by first | rfl | assumption) rfl rfl ?_
    refine z_gI 1 dX4_lower_4 fl_X4_53 (by first | rfl | assumption) rfl rfl ?_
    rw [hs, hn0]
    refine z_if_ne 19 dX4_lower_7 (by decide) (fun h7 => ?_) (fun h7 => ?_)
    · exact absurd rfl h7
    · refine z_aload_n dX4_lower_10 rfl ?_
      refine z_getR (ty := .int) dX4_lower_11 fl_X4_16 (by first | rfl | assumption) rfl rfl ?_
      refine z_lconst (z := 1) dX4_lower_14 rfl (by decide) ?_
      refine z_V1v dX4_lower_15 ok_X8_become lk_X4_25 (by first | rfl | assumption) rfl rfl (Nat.le_of_ble_eq_true rfl) (by decide) (cm_X8_become hB (by decide) (by decide)) (fun m1 hm1 => ?_)
      obtain ⟨n1, on1⟩ := hm1
      refine z_vret dX4_lower_18 rfl ?_
      exact ⟨rfl, rfl, ⟨h1.off on1 (by omega) (by omega) (by omega), n1⟩, onF.of on1 (by omega)⟩
  · have hn0 : n ≠ 0 := by
      intro q
      subst q
      have : nv (mem (F + 1 + 1)) 0 = 0 := rfl
      omega
    have ha' : 0 < a := by omega
    refine z_aload_n dX4_lower_0 rfl ?_
    refine z_getR (ty := .int) dX4_lower_1 fl_X4_10 (by first | rfl | assumption) rfl rfl ?_
    refine z_gI 1 dX4_lower_4 fl_X4_53 (by first | rfl | assumption) rfl rfl ?_
    rw [hs]
    refine z_if_ne 19 dX4_lower_7 (by decide) (fun h7 => ?_) (fun h7 => ?_)
    · refine z_aload_n dX4_lower_19 rfl ?_
      refine z_getR (ty := .int) dX4_lower_20 fl_X4_10 (by first | rfl | assumption) rfl rfl ?_
      refine z_V0i dX4_lower_23 ok_X8_twos lk_X4_57 (by first | rfl | assumption) rfl rfl (Nat.le_of_ble_eq_true rfl) (by decide) (cm_X8_twos hA h1 ha') (fun z m1 hm1 => ?_)
      obtain ⟨⟨k1, t1, rfl, e1⟩, rfl⟩ := hm1
      have l1 := twos_lt e1 (natAt_lt h1)
      refine z_aload_n dX4_lower_26 rfl ?_
      refine z_getR (ty := .int) dX4_lower_27 fl_X4_16 (by first | rfl | assumption) rfl rfl ?_
      refine z_V0i dX4_lower_30 ok_X8_twos lk_X4_57 (by first | rfl | assumption) rfl rfl (Nat.le_of_ble_eq_true rfl) (by decide) (cm_X8_twos hB h2 hb0) (fun z m1 hm1 => ?_)
      obtain ⟨⟨k2, t2, rfl, e2⟩, rfl⟩ := hm1
      have l2 := twos_lt e2 (natAt_lt h2)
      refine z_min dX4_lower_33 lm_X4_61 (by decide) (Nat.le_of_ble_eq_true rfl) ?_
      rw [show (if (k2 : Int) < (k1 : Int) then (k2 : Int) else (k1 : Int)) = ((min k1 k2 : Nat) : Int) by rw [Nat.min_def]; split <;> split <;> omega]
      refine z_istore_n dX4_lower_36 (by decide) rfl ?_
      dsimp only [List.set]
      refine z_aload_n dX4_lower_37 rfl ?_
      refine z_getR (ty := .int) dX4_lower_38 fl_X4_10 (by first | rfl | assumption) rfl rfl ?_
      refine z_iload_n dX4_lower_41 rfl ?_
      refine z_V1v dX4_lower_42 ok_X8_dropBits lk_X4_67 (by first | rfl | assumption) rfl rfl (Nat.le_of_ble_eq_true rfl) (by decide) (cm_X8_dropBits hA h1 (by omega)) (fun m3 hm3 => ?_)
      obtain ⟨n1, on1⟩ := hm3
      refine z_aload_n dX4_lower_45 rfl ?_
      refine z_getR (ty := .int) dX4_lower_46 fl_X4_16 (by first | rfl | assumption) rfl rfl ?_
      refine z_iload_n dX4_lower_49 rfl ?_
      refine z_V1v dX4_lower_50 ok_X8_dropBits lk_X4_67 (by first | rfl | assumption) rfl rfl (Nat.le_of_ble_eq_true rfl) (by decide) (cm_X8_dropBits hB (h2.off on1 (by omega) (by omega) (by omega)) (by omega)) (fun m4 hm4 => ?_)
      obtain ⟨n2, on2⟩ := hm4
      have n1' := n1.off on2 (by omega) (by omega) (by omega)
      have q1 : a / 2 ^ min k1 k2 = 2 ^ (k1 - min k1 k2) * (2 * t1 + 1) := by
        have : 2 ^ k1 = 2 ^ min k1 k2 * 2 ^ (k1 - min k1 k2) := by rw [← Nat.pow_add]; congr 1; omega
        rw [e1, this, Nat.mul_assoc, Nat.mul_div_cancel_left _ (Nat.two_pow_pos _)]
      have q2 : b / 2 ^ min k1 k2 = 2 ^ (k2 - min k1 k2) * (2 * t2 + 1) := by
        have : 2 ^ k2 = 2 ^ min k1 k2 * 2 ^ (k2 - min k1 k2) := by rw [← Nat.pow_add]; congr 1; omega
        rw [e2, this, Nat.mul_assoc, Nat.mul_div_cancel_left _ (Nat.two_pow_pos _)]
      have p1 : 0 < a / 2 ^ min k1 k2 := by rw [q1]; exact Nat.mul_pos (Nat.two_pow_pos _) (by omega)
      have p2 : 0 < b / 2 ^ min k1 k2 := by rw [q2]; exact Nat.mul_pos (Nat.two_pow_pos _) (by omega)
      have hgg : Nat.gcd a b = 2 ^ min k1 k2 * Nat.gcd (2 * t1 + 1) (2 * t2 + 1) := by rw [e1, e2]; exact gcd_twos (by omega) (by omega)
      have godd : Nat.gcd (2 * t1 + 1) (2 * t2 + 1) % 2 = 1 := by
        obtain ⟨u, hu⟩ := Nat.gcd_dvd_left (2 * t1 + 1) (2 * t2 + 1)
        rcases Nat.mod_two_eq_zero_or_one (Nat.gcd (2 * t1 + 1) (2 * t2 + 1)) with w | w
        · have : (2 * t1 + 1) % 2 = 0 := by rw [hu, Nat.mul_mod, w]; simp
          omega
        · exact w
      refine z_aload_n dX4_lower_53 rfl ?_
      refine z_V0v dX4_lower_54 ok_X4_measureOdd lk_X4_70 (by first | rfl | assumption) rfl rfl (Nat.le_of_ble_eq_true rfl) (by decide) (cm_X4_measureOdd hF' ⟨n1', n2⟩ p1 p2 q1 q2) (fun m5 hm5 => ?_)
      obtain ⟨⟨n3, n4⟩, n5, on3⟩ := hm5
      refine z_aload_n dX4_lower_57 rfl ?_
      refine z_getR (ty := .int) dX4_lower_58 fl_X4_10 (by first | rfl | assumption) rfl rfl ?_
      refine z_aload_n dX4_lower_61 rfl ?_
      refine z_getR (ty := .int) dX4_lower_62 fl_X4_19 (by first | rfl | assumption) rfl rfl ?_
      refine z_V1v dX4_lower_65 ok_X8_divideByOdd lk_X4_73 (by first | rfl | assumption) rfl rfl (Nat.le_of_ble_eq_true rfl) (by decide) (cm_X8_divideByOdd hA hL n3 n5 (by omega) godd (by rw [q1]; exact Nat.dvd_trans (Nat.gcd_dvd_left _ _) (Nat.dvd_mul_left _ _))) (fun m6 hm6 => ?_)
      obtain ⟨n6, on4⟩ := hm6
      refine z_aload_n dX4_lower_68 rfl ?_
      refine z_getR (ty := .int) dX4_lower_69 fl_X4_16 (by first | rfl | assumption) rfl rfl ?_
      refine z_aload_n dX4_lower_72 rfl ?_
      refine z_getR (ty := .int) dX4_lower_73 fl_X4_19 (by first | rfl | assumption) rfl rfl ?_
      refine z_V1v dX4_lower_76 ok_X8_divideByOdd lk_X4_73 (by first | rfl | assumption) rfl rfl (Nat.le_of_ble_eq_true rfl) (by decide) (cm_X8_divideByOdd hB hL (n4.off on4 (by omega) (by omega) (by omega)) (n5.off on4 (by omega) (by omega) (by omega)) (by omega) godd (by rw [q2]; exact Nat.dvd_trans (Nat.gcd_dvd_right _ _) (Nat.dvd_mul_left _ _))) (fun m7 hm7 => ?_)
      obtain ⟨n7, on5⟩ := hm7
      refine z_vret dX4_lower_79 rfl ?_
      rw [Nat.div_div_eq_div_mul, ← hgg] at n6 n7
      exact ⟨rfl, rfl, ⟨n6.off on5 (by omega) (by omega) (by omega), n7⟩, ((((onF.of on1 (by omega)).tr (onF.of on2 (by omega))).tr on3).tr (onF.of on4 (by omega))).tr (onF.of on5 (by omega))⟩
    · omega
theorem cm_X4_become_ {p q a b : Nat} (hF : isF G F) (hp : isN G p) (hq : isN G q) (ha : natAt mem p a) (hb : natAt mem q b) (hb0 : 0 < b) (hap : p + 1 < F + 1 ∨ F + 9 ≤ p) (haq : q + 1 < F + 1 ∨ F + 9 ≤ q) : CM X (0, 0) 4 mX4_become_ G [vr F, vr p, vr q] mem (pV G fun m => fracAt m F (a / Nat.gcd a b) (b / Nat.gcd a b) ∧ onF F mem m) := by
  have hF' := hF
  obtain ⟨hg, hA, hB, hL, hR⟩ := hF
  have hA1 := hA.1
  have hB1 := hB.1
  refine CM.of (by decide +kernel) 0 (Nat.le_of_ble_eq_true rfl) ?_
  show ZZ X (0, 0) 4 mX4_become_ G 0 [vr F, vr p, vr q] [] mem _
  refine z_aload_n dX4_become__0 rfl ?_
  refine z_getR (ty := .int) dX4_become__1 fl_X4_10 (by first | rfl | assumption) rfl rfl ?_
  refine z_aload_n dX4_become__4 rfl ?_
  refine z_V1v dX4_become__5 ok_X8_copy lk_X4_35 (by first | rfl | assumption) rfl rfl (Nat.le_of_ble_eq_true rfl) (by decide) (cm_X8_copy hA hp ha (by omega)) (fun m1 hm1 => ?_)
  obtain ⟨n1, on1⟩ := hm1
  refine z_aload_n dX4_become__8 rfl ?_
  refine z_getR (ty := .int) dX4_become__9 fl_X4_16 (by first | rfl | assumption) rfl rfl ?_
  refine z_aload_n dX4_become__12 rfl ?_
  refine z_V1v dX4_become__13 ok_X8_copy lk_X4_35 (by first | rfl | assumption) rfl rfl (Nat.le_of_ble_eq_true rfl) (by decide) (cm_X8_copy hB hq (hb.off on1 (by omega) (by omega) (by omega)) (by omega)) (fun m2 hm2 => ?_)
  obtain ⟨n2, on2⟩ := hm2
  refine z_aload_n dX4_become__16 rfl ?_
  refine z_V0v dX4_become__17 ok_X4_lower lk_X4_39 (by first | rfl | assumption) rfl rfl (Nat.le_of_ble_eq_true rfl) (by decide) (cm_X4_lower hF' ⟨n1.off on2 (by omega) (by omega) (by omega), n2⟩ hb0) (fun m3 hm3 => ?_)
  refine z_vret dX4_become__20 rfl ?_
  exact ⟨rfl, rfl, hm3.1, ((onF.of on1 (by omega)).tr (onF.of on2 (by omega))).tr hm3.2⟩
end FracC
