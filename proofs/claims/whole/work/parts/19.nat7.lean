section NatG
variable {X : Nat × (Int → Int)} {G : List GC} {o : Nat} {mem : Mem}
theorem cm_X8_takeTimes {p n n2 f : Nat} {q : Int} (hN : isN G o) (hM : isN G p) (ha : p ≠ o ∧ p ≠ o + 1 ∧ p + 1 ≠ o) (hs : mem o 1 = (n : Int)) (hn : n ≤ 64) (hd : dig (mem (o + 1)) n) (hs2 : mem p 1 = (n2 : Int)) (hn2 : n2 ≤ 64) (hd2 : dig (mem (p + 1)) n2) (hq0 : 0 ≤ q) (hq : q < 1073741824) (hf : f ≤ n) :
    CM X (0, 0) 1 mX8_takeTimes G [vr o, vr p, vi q, vi (f : Int)] mem (pV G fun m => onN o mem m ∧ m o 1 = (n : Int) ∧ dig (m (o + 1)) n ∧ (∀ j : Nat, j < f → m (o + 1) (j : Int) = mem (o + 1) (j : Int)) ∧ (∃ c : Int, nv (m (o + 1)) n = nv (mem (o + 1)) n - q * nv (padR (mem (p + 1)) n2) (n - f) * zB ^ f + c * zB ^ n) ∧ (f < n → m (o + 1) (f : Int) = (mem (o + 1) (f : Int) - q * padR (mem (p + 1)) n2 0) % 1073741824)) := by
  have hN' := hN
  have hM' := hM
  obtain ⟨hg, hg1⟩ := hN
  obtain ⟨hgp, hgp1⟩ := hM
  obtain ⟨ha1, ha2, ha3⟩ := ha
  refine CM.of (by decide +kernel) 3 (Nat.le_of_ble_eq_true rfl) ?_
  show ZZ X (0, 0) 1 mX8_takeTimes G 0 [vr o, vr p, vi q, vi (f : Int), vd, vd, vd] [] mem _
  have loop : ∀ (k t : Nat) (c : Int) (m : Mem), k + (f + t) = n → -1073741824 ≤ c → c ≤ 0 → onN o mem m → m o 1 = (n : Int) → dig (m (o + 1)) (f + t) → (∀ j : Nat, f + t ≤ j → m (o + 1) (j : Int) = mem (o + 1) (j : Int)) → (∀ j : Nat, j < f → m (o + 1) (j : Int) = mem (o + 1) (j : Int)) → nv (m (o + 1)) (f + t) + c * zB ^ (f + t) = nv (mem (o + 1)) (f + t) - q * nv (padR (mem (p + 1)) n2) t * zB ^ f → (0 < t → m (o + 1) (f : Int) = (mem (o + 1) (f : Int) - q * padR (mem (p + 1)) n2 0) % 1073741824) → (t = 0 → c = 0) →
      ZZ X (0, 0) 1 mX8_takeTimes G 6 [vr o, vr p, vi q, vi (f : Int), vl c, vd, vi ((f + t : Nat) : Int)] [] m (pV G fun m => onN o mem m ∧ m o 1 = (n : Int) ∧ dig (m (o + 1)) n ∧ (∀ j : Nat, j < f → m (o + 1) (j : Int) = mem (o + 1) (j : Int)) ∧ (∃ c : Int, nv (m (o + 1)) n = nv (mem (o + 1)) n - q * nv (padR (mem (p + 1)) n2) (n - f) * zB ^ f + c * zB ^ n) ∧ (f < n → m (o + 1) (f : Int) = (mem (o + 1) (f : Int) - q * padR (mem (p + 1)) n2 0) % 1073741824)) := by
    intro k
    induction k with
    | zero =>
      intro t c m hk hc0 hc hon hsz hdg hsame hlow hinv hfst ht0
      have hi : n = f + t := by omega
      subst hi
      refine z_iload dX8_takeTimes_6 rfl ?_
      refine z_aload_n dX8_takeTimes_8 rfl ?_
      refine z_gI 1 dX8_takeTimes_9 fl_X8_13 (by first | rfl | assumption) rfl rfl ?_
      rw [hsz]
      refine z_icmp_ge 68 dX8_takeTimes_12 (by decide) (fun h12 => ?_) (fun h12 => ?_)
      · refine z_vret dX8_takeTimes_68 rfl ?_
        refine ⟨rfl, rfl, hon, hsz, hdg, hlow, ⟨-c, ?_⟩, fun w => hfst (by omega)⟩
        rw [Nat.add_sub_cancel_left, Int.neg_mul]
        omega
      · omega
    | succ k ih =>
      intro t c m hk hc0 hc hon hsz hdg hsame hlow hinv hfst ht0
      have hA := hd (f + t) (by omega)
      have hC := dig_pad (k := t + 1) hd2 t (by omega)
      have hmp : m p 1 = (n2 : Int) := by rw [hon p ha1 ha2]; exact hs2
      have hmp1 : m (p + 1) = mem (p + 1) := hon (p + 1) ha3 (by omega)
      have hp0 : 0 ≤ q * padR (mem (p + 1)) n2 (t : Int) := Int.mul_nonneg hq0 hC.1
      have hp1 : q * padR (mem (p + 1)) n2 (t : Int) ≤ q * 1073741823 := Int.mul_le_mul_of_nonneg_left (by omega) hq0
      refine z_iload dX8_takeTimes_6 rfl ?_
      refine z_aload_n dX8_takeTimes_8 rfl ?_
      refine z_gI 1 dX8_takeTimes_9 fl_X8_13 (by first | rfl | assumption) rfl rfl ?_
      rw [hsz]
      refine z_icmp_ge 68 dX8_takeTimes_12 (by decide) (fun h12 => ?_) (fun h12 => ?_)
      · omega
      · refine z_lload dX8_takeTimes_15 rfl ?_
        refine z_aload_n dX8_takeTimes_17 rfl ?_
        refine z_getR (ty := .int) dX8_takeTimes_18 fl_X8_9 (by first | rfl | assumption) rfl rfl ?_
        refine z_iload dX8_takeTimes_21 rfl ?_
        refine z_iald dX8_takeTimes_23 (by first | rfl | assumption) (by omega) (by omega) ?_
        rw [hsame (f + t) (Nat.le_refl _)]
        refine z_i2l dX8_takeTimes_24 ?_
        refine z_iload_n dX8_takeTimes_25 rfl ?_
        refine z_i2l dX8_takeTimes_26 ?_
        refine z_aload_n dX8_takeTimes_27 rfl ?_
        refine z_iload dX8_takeTimes_28 rfl ?_
        refine z_iload_n dX8_takeTimes_30 rfl ?_
        refine z_isub dX8_takeTimes_31 (by omega) ?_
        rw [show ((f + t : Nat) : Int) - (f : Int) = (t : Int) by omega]
        refine z_V1i dX8_takeTimes_32 ok_X8_at lk_X8_38 (by first | rfl | assumption) rfl rfl (Nat.le_of_ble_eq_true rfl) (by decide) (cm_X8_at hM' hmp hn2) (fun z2 m1 hm1 => ?_)
        obtain ⟨hz2, rfl⟩ := hm1
        rw [hmp1] at hz2
        have hz2' : z2 = padR (mem (p + 1)) n2 (t : Int) := hz2
        clear hz2
        subst hz2'
        refine z_i2l dX8_takeTimes_35 ?_
        refine z_lmul dX8_takeTimes_36 (by omega) ?_
        refine z_lsub dX8_takeTimes_37 (by omega) ?_
        refine z_ladd dX8_takeTimes_38 (by omega) ?_
        refine z_lstore dX8_takeTimes_39 (by decide) rfl ?_
        dsimp only [List.set]
        refine z_aload_n dX8_takeTimes_41 rfl ?_
        refine z_getR (ty := .int) dX8_takeTimes_42 fl_X8_9 (by first | rfl | assumption) rfl rfl ?_
        refine z_iload dX8_takeTimes_45 rfl ?_
        refine z_lload dX8_takeTimes_47 rfl ?_
        refine z_ldc2 (z := 1073741823) dX8_takeTimes_49 kc_X8_17 (by decide) ?_
        refine z_land dX8_takeTimes_52 ?_
        rw [land30]
        refine z_l2i dX8_takeTimes_53 (by omega) ?_
        refine z_iast dX8_takeTimes_54 (by first | rfl | assumption) (by omega) (by omega) ?_
        refine z_lload dX8_takeTimes_55 rfl ?_
        refine z_bipush dX8_takeTimes_57 (by decide) ?_
        refine z_lshr dX8_takeTimes_59 ?_
        rw [lshr30 (by omega)]
        refine z_lstore dX8_takeTimes_60 (by decide) rfl ?_
        dsimp only [List.set]
        refine z_iinc dX8_takeTimes_62 rfl (by omega) (by decide) rfl ?_
        dsimp only [List.set]
        refine z_goto 6 dX8_takeTimes_65 (by decide) ?_
        refine ih (t + 1) _ _ (by omega) (by omega) (by omega) (hon.tr (onN_set (Or.inr rfl))) (onN.sz hsz) (dig_msetS hdg (by omega) (by omega)) (fun j hj => ?_) (fun j hj => ?_) ?_ (fun _ => ?_) (by omega)
        · rw [mset_nej _ _ (by omega)]
          exact hsame j (by omega)
        · rw [mset_nej _ _ (by omega)]
          exact hlow j hj
        · show nv _ (f + t + 1) + _ * zB ^ (f + t + 1) = (nv (mem (o + 1)) (f + t) + mem (o + 1) ((f + t : Nat) : Int) * zB ^ (f + t)) - q * (nv (padR (mem (p + 1)) n2) t + padR (mem (p + 1)) n2 (t : Int) * zB ^ t) * zB ^ f
          rw [nv_msetS]
          have hdm := Int.mul_ediv_add_emod (c + (mem (o + 1) ((f + t : Nat) : Int) - q * padR (mem (p + 1)) n2 (t : Int))) 1073741824
          rw [Int.pow_succ]
          generalize (c + (mem (o + 1) ((f + t : Nat) : Int) - q * padR (mem (p + 1)) n2 (t : Int))) / 1073741824 = qq at hdm ⊢
          generalize (c + (mem (o + 1) ((f + t : Nat) : Int) - q * padR (mem (p + 1)) n2 (t : Int))) % 1073741824 = rr at hdm ⊢
          have hB : zB = 1073741824 := rfl
          rw [Int.pow_add] at hinv ⊢
          generalize zB ^ f = p1 at hinv ⊢
          generalize zB ^ t = p2 at hinv ⊢
          rw [hB]
          grind
        · by_cases e : t = 0
          · subst e
            rw [ht0 rfl]
            show mset _ _ (f : Int) _ _ (f : Int) = _
            rw [mset_eq]
            congr 1
            show 0 + (mem (o + 1) (f : Int) - q * padR (mem (p + 1)) n2 0) = _
            omega
          · rw [mset_nej _ _ (by omega)]
            exact hfst (by omega)
  refine z_lconst (z := 0) dX8_takeTimes_0 rfl (by decide) ?_
  refine z_lstore dX8_takeTimes_1 (by decide) rfl ?_
  dsimp only [List.set]
  refine z_iload_n dX8_takeTimes_3 rfl ?_
  refine z_istore dX8_takeTimes_4 (by decide) rfl ?_
  dsimp only [List.set]
  exact loop (n - f) 0 0 mem (by omega) (by omega) (by omega) (onN.rf _ _) hs (fun i hi => hd i (by omega)) (fun j _ => rfl) (fun j _ => rfl) (by simp [nv]) (fun w => by omega) (fun _ => rfl)
theorem cop_odd {D k : Nat} (h : D % 2 = 1) : Nat.Coprime (2 ^ k) D := by
  apply Nat.Coprime.pow_left
  unfold Nat.Coprime
  rw [Nat.gcd_rec, h]
  rfl
theorem exact_odd {q Q D : Nat} {n : Nat} {c : Int} (h : (q : Int) * D = (Q : Int) * D + c * zB ^ n) (hodd : D % 2 = 1) (hq : q < 1073741824 ^ n) (hQ : Q < 1073741824 ^ n) : q = Q := by
  have hdv : ((1073741824 ^ n : Nat) : Int) ∣ ((q : Int) - Q) * D := ⟨c, by rw [Int.natCast_pow, Int.mul_comm _ c, Int.sub_mul]; show _ = c * zB ^ n; omega⟩
  have hnat : 1073741824 ^ n ∣ ((q : Int) - Q).natAbs * D := by
    have := Int.natAbs_dvd_natAbs.mpr hdv
    rw [Int.natAbs_mul, Int.natAbs_natCast, Int.natAbs_natCast] at this
    exact this
  have hcop : Nat.Coprime (1073741824 ^ n) D := by
    rw [show (1073741824 : Nat) = 2 ^ 30 from rfl, ← Nat.pow_mul]
    exact cop_odd hodd
  have h3 := hcop.dvd_of_dvd_mul_right hnat
  have h4 : ((q : Int) - Q).natAbs < 1073741824 ^ n := by omega
  have h5 := Nat.eq_zero_of_dvd_of_lt h3 h4
  omega
theorem cm_X8_divideByOdd {p v D : Nat} (hN : isN G o) (hM : isN G p) (hv : natAt mem o v) (hw : natAt mem p D) (ha : p ≠ o ∧ p ≠ o + 1 ∧ p + 1 ≠ o) (hodd : D % 2 = 1) (hdv : D ∣ v) : CM X (0, 0) 2 mX8_divideByOdd G [vr o, vr p] mem (pV G fun m => natAt m o (v / D) ∧ onN o mem m) := by
  have hN' := hN
  have hM' := hM
  have ha' := ha
  obtain ⟨hg, hg1⟩ := hN
  obtain ⟨hgp, hgp1⟩ := hM
  obtain ⟨n, hs, hn, hd, hvv, -⟩ := hv
  obtain ⟨n2, hs2, hn2, hd2, hvv2, htop2⟩ := hw
  obtain ⟨ha1, ha2, ha3⟩ := ha
  obtain ⟨Q, hQ⟩ := hdv
  have hD0 : 0 < D := by omega
  have hvQ : v / D = Q := by rw [hQ, Nat.mul_div_cancel_left _ hD0]
  have hQle : Q ≤ v := by rw [hQ]; exact Nat.le_mul_of_pos_left _ hD0
  have hvlt : v < 1073741824 ^ n := by
    have h1 := nv_lt hd
    have : (v : Int) < ((1073741824 ^ n : Nat) : Int) := by rw [Int.natCast_pow, ← hvv]; exact h1
    omega
  have hlow : padR (mem (p + 1)) n2 0 = ((D % 1073741824 : Nat) : Int) := by
    have := nv_dig hd2 hvv2 0
    rw [Nat.pow_zero, Nat.div_one] at this
    exact this
  have hDhi : ∀ k : Nat, ∃ h : Int, (D : Int) = nv (padR (mem (p + 1)) n2) k + h * zB ^ k := by
    intro k
    obtain ⟨h, -, hh⟩ := nv_high (f := padR (mem (p + 1)) n2) (k := k) (n := k + n2) (by omega) (dig_pad hd2)
    rw [nv_padR (by omega), hvv2] at hh
    exact ⟨h, by omega⟩
  refine CM.of (by decide +kernel) 3 (Nat.le_of_ble_eq_true rfl) ?_
  show ZZ X (0, 0) 2 mX8_divideByOdd G 0 [vr o, vr p, vd, vd, vd] [] mem _
  have loop : ∀ (inv : Int), (∃ t : Int, ((D % 1073741824 : Nat) : Int) * inv = 1 + t * 4294967296) → ∀ (k i : Nat) (m : Mem), k + i = n → onN o mem m → m o 1 = (n : Int) → dig (m (o + 1)) n → (∃ c : Int, nv (m (o + 1)) i * D + (nv (m (o + 1)) n - nv (m (o + 1)) i) = (v : Int) + c * zB ^ n) →
      ZZ X (0, 0) 2 mX8_divideByOdd G 11 [vr o, vr p, vi inv, vi (i : Int), vd] [] m (pV G fun m => natAt m o (v / D) ∧ onN o mem m) := by
    intro inv hinv k
    induction k with
    | zero =>
      intro i m hk hon hsz hdg hI
      have hi : i = n := by omega
      subst hi
      obtain ⟨c, hc⟩ := hI
      have h0 := nv_nonneg hdg
      have h1 := nv_lt hdg
      obtain ⟨q, hq⟩ : ∃ q : Nat, nv (m (o + 1)) i = (q : Int) := ⟨(nv (m (o + 1)) i).toNat, by omega⟩
      have hqQ : q = Q := by
        refine exact_odd (n := i) (c := c) ?_ hodd ?_ (by omega)
        · rw [hq, hQ] at hc
          rw [Int.natCast_mul] at hc
          rw [Int.mul_comm (Q : Int)]
          omega
        · have : (q : Int) < ((1073741824 ^ i : Nat) : Int) := by rw [Int.natCast_pow, ← hq]; exact h1
          omega
      refine z_iload_n dX8_divideByOdd_11 rfl ?_
      refine z_aload_n dX8_divideByOdd_12 rfl ?_
      refine z_gI 1 dX8_divideByOdd_13 fl_X8_13 (by first | rfl | assumption) rfl rfl ?_
      rw [hsz]
      refine z_icmp_ge 54 dX8_divideByOdd_16 (by decide) (fun h16 => ?_) (fun h16 => ?_)
      · refine z_aload_n dX8_divideByOdd_54 rfl ?_
        refine z_V0v dX8_divideByOdd_55 ok_X8_trim lk_X8_23 (by first | rfl | assumption) rfl rfl (Nat.le_of_ble_eq_true rfl) (by decide) (cm_X8_trim hN' hsz hn) (fun m2 hm2 => ?_)
        refine z_vret dX8_divideByOdd_58 rfl ?_
        obtain ⟨q1, q2⟩ := trim_nat (v := v / D) hn hdg (by rw [hq, hvQ, hqQ]) hm2
        exact ⟨rfl, rfl, q1, hon.tr q2⟩
      · omega
    | succ k ih =>
      intro i m hk hon hsz hdg hI
      have hA := hdg i (by omega)
      have hmp : m p 1 = (n2 : Int) := by rw [hon p ha1 ha2]; exact hs2
      have hmp1 : m (p + 1) = mem (p + 1) := hon (p + 1) ha3 (by omega)
      have hq0 := Int.emod_nonneg (m (o + 1) (i : Int) * inv) (show (1073741824 : Int) ≠ 0 by decide)
      have hq1 := Int.emod_lt_of_pos (m (o + 1) (i : Int) * inv) (show (0 : Int) < 1073741824 by decide)
      have hmask : iandV (w32 (m (o + 1) (i : Int) * inv)) 1073741823 = m (o + 1) (i : Int) * inv % 1073741824 := by
        rw [iand30]
        obtain ⟨k1, h1⟩ := w32_ex (m (o + 1) (i : Int) * inv)
        rw [h1, show m (o + 1) (i : Int) * inv + k1 * 4294967296 = m (o + 1) (i : Int) * inv + 1073741824 * (k1 * 4) by omega, Int.add_mul_emod_self_left]
      refine z_iload_n dX8_divideByOdd_11 rfl ?_
      refine z_aload_n dX8_divideByOdd_12 rfl ?_
      refine z_gI 1 dX8_divideByOdd_13 fl_X8_13 (by first | rfl | assumption) rfl rfl ?_
      rw [hsz]
      refine z_icmp_ge 54 dX8_divideByOdd_16 (by decide) (fun h16 => ?_) (fun h16 => ?_)
      · omega
      · refine z_aload_n dX8_divideByOdd_19 rfl ?_
        refine z_getR (ty := .int) dX8_divideByOdd_20 fl_X8_9 (by first | rfl | assumption) rfl rfl ?_
        refine z_iload_n dX8_divideByOdd_23 rfl ?_
        refine z_iald dX8_divideByOdd_24 (by first | rfl | assumption) (by omega) (by omega) ?_
        refine z_iload_n dX8_divideByOdd_25 rfl ?_
        refine z_imulw dX8_divideByOdd_26 ?_
        refine z_ldc (z := 1073741823) dX8_divideByOdd_27 kc_X8_42 (by decide) ?_
        refine z_iand dX8_divideByOdd_29 ?_
        rw [hmask]
        refine z_istore dX8_divideByOdd_30 (by decide) rfl ?_
        dsimp only [List.set]
        refine z_aload_n dX8_divideByOdd_32 rfl ?_
        refine z_aload_n dX8_divideByOdd_33 rfl ?_
        refine z_iload dX8_divideByOdd_34 rfl ?_
        refine z_iload_n dX8_divideByOdd_36 rfl ?_
        refine z_V3v dX8_divideByOdd_37 ok_X8_takeTimes lk_X8_46 (by first | rfl | assumption) rfl rfl (Nat.le_of_ble_eq_true rfl) (by decide) (cm_X8_takeTimes hN' hM' ha' hsz hn hdg hmp hn2 (by rw [hmp1]; exact hd2) hq0 hq1 (show i ≤ n by omega)) (fun m1 hm1 => ?_)
        obtain ⟨t1, t2, t3, t4, ⟨c1, t5⟩, t6⟩ := hm1
        rw [hmp1] at t5 t6
        refine z_aload_n dX8_divideByOdd_40 rfl ?_
        refine z_getR (ty := .int) dX8_divideByOdd_41 fl_X8_9 (by first | rfl | assumption) rfl rfl ?_
        refine z_iload_n dX8_divideByOdd_44 rfl ?_
        refine z_iload dX8_divideByOdd_45 rfl ?_
        refine z_iast dX8_divideByOdd_47 (by first | rfl | assumption) (by omega) (by omega) ?_
        refine z_iinc dX8_divideByOdd_48 rfl (by omega) (by decide) rfl ?_
        dsimp only [List.set]
        refine z_goto 11 dX8_divideByOdd_51 (by decide) ?_
        refine z_kill 4 ?_
        dsimp only [List.set]
        refine ih (i + 1) _ (by omega) ((hon.tr t1).tr (onN_set (Or.inr rfl))) (onN.sz t2) (dig_mset t3 hq0 hq1) ?_
        obtain ⟨c, hc⟩ := hI
        obtain ⟨hh, hDD⟩ := hDhi (n - i)
        have hz : m1 (o + 1) (i : Int) = 0 := by
          rw [t6 (by omega), hlow]
          obtain ⟨t, ht⟩ := hinv
          have hdm := Int.mul_ediv_add_emod (m (o + 1) (i : Int) * inv) 1073741824
          generalize m (o + 1) (i : Int) * inv % 1073741824 = dd at hdm ⊢
          generalize hE : m (o + 1) (i : Int) * inv / 1073741824 = ee at hdm
          have hx : m (o + 1) (i : Int) - dd * ((D % 1073741824 : Nat) : Int) = 1073741824 * (ee * ((D % 1073741824 : Nat) : Int) - m (o + 1) (i : Int) * t * 4) := by
            generalize ((D % 1073741824 : Nat) : Int) = d0 at ht ⊢
            generalize m (o + 1) (i : Int) = x0 at hdm ⊢
            have : dd = x0 * inv - 1073741824 * ee := by omega
            subst this
            grind
          rw [hx, Int.mul_emod_right]
        have e1 : nv (m1 (o + 1)) i = nv (m (o + 1)) i := nv_congr (fun j hj => t4 j hj)
        refine ⟨c + c1 + (m (o + 1) (i : Int) * inv % 1073741824) * hh, ?_⟩
        rw [nv_mset (show i < n by omega), nv_msetS, hz, e1, t5]
        have hpn : zB ^ n = zB ^ i * zB ^ (n - i) := by rw [← Int.pow_add, show i + (n - i) = n by omega]
        generalize m (o + 1) (i : Int) * inv % 1073741824 = dd
        rw [hpn] at hc ⊢
        generalize zB ^ i = p1 at hc ⊢
        generalize zB ^ (n - i) = p2 at hc hDD ⊢
        generalize nv (padR (mem (p + 1)) n2) (n - i) = dl at hDD ⊢
        generalize nv (m (o + 1)) n = vn at hc ⊢
        generalize nv (m (o + 1)) i = vi0 at hc ⊢
        grind
  refine z_aload_n dX8_divideByOdd_0 rfl ?_
  refine z_iconst dX8_divideByOdd_1 (by decide) ?_
  refine z_V1i dX8_divideByOdd_2 ok_X8_at lk_X8_38 (by first | rfl | assumption) rfl rfl (Nat.le_of_ble_eq_true rfl) (by decide) (cm_X8_at hM' hs2 hn2) (fun z1 m1 hm1 => ?_)
  obtain ⟨hz1, rfl⟩ := hm1
  have hz1' : z1 = ((D % 1073741824 : Nat) : Int) := hz1.trans hlow
  clear hz1
  subst hz1'
  refine z_S1i dX8_divideByOdd_5 ok_X8_inverseOf lk_X8_43 (Nat.le_of_ble_eq_true rfl) (by decide) (cm_X8_inverseOf (by omega) (by omega) (by omega)) (fun z1 m2 hm1 => ?_)
  obtain ⟨hinv, rfl⟩ := hm1
  refine z_istore_n dX8_divideByOdd_8 (by decide) rfl ?_
  dsimp only [List.set]
  refine z_iconst dX8_divideByOdd_9 (by decide) ?_
  refine z_istore_n dX8_divideByOdd_10 (by decide) rfl ?_
  dsimp only [List.set]
  exact loop z1 hinv n 0 _ (by omega) (onN.rf _ _) hs hd ⟨0, by simp [nv, hvv]⟩
end NatG
