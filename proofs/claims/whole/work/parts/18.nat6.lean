section NatF
variable {X : Nat × (Int → Int)} {G : List GC} {o : Nat} {mem : Mem}
theorem lsh_k : ∀ k : Fin 30, (((Int32.ofInt ((k : Nat) : Int)).toInt64 &&& 63).toBitVec.smod 64) = BitVec.ofNat 64 k := by decide +kernel
theorem lshrk {x : Int} (hx : i64 x) {k : Nat} (hk : k < 30) : lshrV x (k : Int) = x / ((2 ^ k : Nat) : Int) := by
  unfold lshrV
  have h := lsh_k ⟨k, hk⟩
  dsimp only at h
  rw [← Int64.toInt_toBitVec, Int64.toBitVec_shiftRight, h, BitVec.toInt_sshiftRight', Int64.toInt_toBitVec, ti64 hx, Int.shiftRight_eq_div_pow, BitVec.toNat_ofNat, Nat.mod_eq_of_lt (by omega)]
theorem lor_comm (x y : Int) : lorV x y = lorV y x := by unfold lorV; rw [Int64.or_comm]
/-- the digits of a number -/
theorem nv_dig {f : Int → Int} {n v : Nat} (hd : dig f n) (hv : nv f n = (v : Int)) (j : Nat) : padR f n (j : Int) = ((v / 1073741824 ^ j % 1073741824 : Nat) : Int) := by
  unfold padR
  by_cases q : j < n
  · rw [if_pos (by omega)]
    obtain ⟨h, -, hh⟩ := nv_high (show j + 1 ≤ n by omega) hd
    have e1 : nv f (j + 1) = nv f j + f (j : Int) * zB ^ j := rfl
    have h0 := nv_nonneg (f := f) (n := j) (fun i hi => hd i (by omega))
    have h1 := nv_lt (f := f) (n := j) (fun i hi => hd i (by omega))
    have hf := hd j q
    obtain ⟨lo, hlo⟩ : ∃ lo : Nat, nv f j = (lo : Int) := ⟨(nv f j).toNat, by omega⟩
    obtain ⟨dg, hdg⟩ : ∃ dg : Nat, f (j : Int) = (dg : Int) := ⟨(f (j : Int)).toNat, by omega⟩
    have hV : (v : Int) = ((lo + dg * 1073741824 ^ j + h * 1073741824 ^ (j + 1) : Nat) : Int) := by
      rw [← hv]
      have : nv f n = nv f (j + 1) + (h : Int) * zB ^ (j + 1) := by omega
      rw [this, e1, hlo, hdg]
      simp
    have hV2 : v = lo + dg * 1073741824 ^ j + h * 1073741824 ^ (j + 1) := Int.ofNat.inj hV
    have hlo2 : lo < 1073741824 ^ j := by
      have : (lo : Int) < ((1073741824 ^ j : Nat) : Int) := by rw [← hlo]; rw [Int.natCast_pow]; exact h1
      omega
    have hP : 0 < 1073741824 ^ j := Nat.pow_pos (by decide)
    rw [hdg, hV2, Nat.pow_succ]
    have e2 : lo + dg * 1073741824 ^ j + h * (1073741824 ^ j * 1073741824) = lo + (dg + h * 1073741824) * 1073741824 ^ j := by grind
    rw [e2, Nat.add_mul_div_right _ _ hP, Nat.div_eq_of_lt hlo2, Nat.zero_add, Nat.add_mul_mod_self_right, Nat.mod_eq_of_lt (by omega)]
  · rw [if_neg (by omega)]
    have h1 := nv_lt hd
    have h2 := zB_le (show n ≤ j by omega)
    have : v < 1073741824 ^ j := by
      have : (v : Int) < ((1073741824 ^ j : Nat) : Int) := by rw [Int.natCast_pow]; rw [← hv]; exact Int.lt_of_lt_of_le h1 h2
      omega
    rw [Nat.div_eq_of_lt this]
    rfl
theorem nv_of_dig {f : Int → Int} {u : Nat} : ∀ {n : Nat}, (∀ j : Nat, j < n → f (j : Int) = ((u / 1073741824 ^ j % 1073741824 : Nat) : Int)) → nv f n = ((u % 1073741824 ^ n : Nat) : Int)
  | 0, _ => by simp [nv, Nat.mod_one]
  | n + 1, h => by
    show nv f n + f (n : Int) * zB ^ n = _
    rw [nv_of_dig (fun j hj => h j (by omega)), h n (by omega)]
    have e : u % 1073741824 ^ (n + 1) = u % 1073741824 ^ n + u / 1073741824 ^ n % 1073741824 * 1073741824 ^ n := by
      rw [Nat.pow_succ, Nat.mod_mul, Nat.mul_comm (1073741824 ^ n)]
    rw [e, Int.natCast_add, Int.natCast_mul, Int.natCast_pow]
    rfl
theorem pair_shift (U k : Nat) (hk : k ≤ 30) : (U % 1073741824 + U / 1073741824 % 1073741824 * 1073741824) / 2 ^ k % 1073741824 = U / 2 ^ k % 1073741824 := by
  have e1 : U % 1073741824 + U / 1073741824 % 1073741824 * 1073741824 = U % (1073741824 * 1073741824) := by
    rw [Nat.mod_mul, Nat.mul_comm]
  have e2 : (1073741824 * 1073741824 : Nat) = 2 ^ k * (1073741824 * 2 ^ (30 - k)) := by
    have : 2 ^ k * 2 ^ (30 - k) = 1073741824 := by rw [← Nat.pow_add, show k + (30 - k) = 30 by omega]
    rw [Nat.mul_left_comm, this]
  rw [e1, e2, Nat.mod_mul_right_div_self, Nat.mod_mul_right_mod]
theorem cm_X8_dropBits {v k : Nat} (hN : isN G o) (hv : natAt mem o v) (hk : k < 1000000) : CM X (0, 0) 1 mX8_dropBits G [vr o, vi (k : Int)] mem (pV G fun m => natAt m o (v / 2 ^ k) ∧ onN o mem m) := by
  have hN' := hN
  obtain ⟨hg, hg1⟩ := hN
  obtain ⟨n, hs, hn, hd, hvv, -⟩ := hv
  have hdig := nv_dig hd hvv
  obtain ⟨wh, pt, hwp, hpt⟩ : ∃ wh pt : Nat, k = 30 * wh + pt ∧ pt < 30 := ⟨k / 30, k % 30, by omega, by omega⟩
  have hvlt : v < 1073741824 ^ n := by
    have h1 := nv_lt hd
    have : (v : Int) < ((1073741824 ^ n : Nat) : Int) := by rw [Int.natCast_pow, ← hvv]; exact h1
    omega
  have hu : ∀ i : Nat, v / 2 ^ k / 1073741824 ^ i % 1073741824 = (v / 1073741824 ^ (i + wh) % 1073741824 + v / 1073741824 ^ (i + wh) / 1073741824 % 1073741824 * 1073741824) / 2 ^ pt % 1073741824 := by
    intro i
    rw [pair_shift _ _ (by omega), Nat.div_div_eq_div_mul, Nat.div_div_eq_div_mul]
    congr 2
    rw [hwp, Nat.pow_add, Nat.pow_mul, Nat.pow_add]
    show 1073741824 ^ wh * _ * _ = _
    generalize 1073741824 ^ wh = a1
    generalize 1073741824 ^ i = a2
    generalize 2 ^ pt = a3
    grind
  refine CM.of (by decide +kernel) 5 (Nat.le_of_ble_eq_true rfl) ?_
  show ZZ X (0, 0) 1 mX8_dropBits G 0 [vr o, vi (k : Int), vd, vd, vd, vd, vd] [] mem _
  have loop : ∀ (r i : Nat) (m : Mem), r + i = n → onN o mem m → m o 1 = (n : Int) → (∀ j : Nat, j < i → m (o + 1) (j : Int) = ((v / 2 ^ k / 1073741824 ^ j % 1073741824 : Nat) : Int)) → (∀ j : Nat, i ≤ j → m (o + 1) (j : Int) = mem (o + 1) (j : Int)) →
      ZZ X (0, 0) 1 mX8_dropBits G 13 [vr o, vi (k : Int), vi (wh : Int), vi (pt : Int), vi (i : Int), vd, vd] [] m (pV G fun m => natAt m o (v / 2 ^ k) ∧ onN o mem m) := by
    intro r
    induction r with
    | zero =>
      intro i m hr hon hsz hlow hsame
      have hi : i = n := by omega
      subst hi
      have hdg : dig (m (o + 1)) i := fun j hj => by rw [hlow j hj]; omega
      have hq : nv (m (o + 1)) i = ((v / 2 ^ k : Nat) : Int) := by
        rw [nv_of_dig hlow, Nat.mod_eq_of_lt (Nat.lt_of_le_of_lt (Nat.div_le_self _ _) hvlt)]
      refine z_iload dX8_dropBits_13 rfl ?_
      refine z_aload_n dX8_dropBits_15 rfl ?_
      refine z_gI 1 dX8_dropBits_16 fl_X8_13 (by first | rfl | assumption) rfl rfl ?_
      rw [hsz]
      refine z_icmp_ge 70 dX8_dropBits_19 (by decide) (fun h19 => ?_) (fun h19 => ?_)
      · refine z_aload_n dX8_dropBits_70 rfl ?_
        refine z_V0v dX8_dropBits_71 ok_X8_trim lk_X8_23 (by first | rfl | assumption) rfl rfl (Nat.le_of_ble_eq_true rfl) (by decide) (cm_X8_trim hN' hsz hn) (fun m2 hm2 => ?_)
        refine z_vret dX8_dropBits_74 rfl ?_
        obtain ⟨q1, q2⟩ := trim_nat hn hdg hq hm2
        exact ⟨rfl, rfl, q1, hon.tr q2⟩
      · omega
    | succ r ih =>
      intro i m hr hon hsz hlow hsame
      have hrd : ∀ j : Nat, i ≤ j → (if 0 ≤ (j : Int) ∧ (j : Int) < (n : Int) then m (o + 1) (j : Int) else 0) = ((v / 1073741824 ^ j % 1073741824 : Nat) : Int) := by
        intro j hj
        rw [← hdig j]
        unfold padR
        rw [hsame j hj]
      have hUb := Nat.mod_lt (v / 1073741824 ^ (i + wh)) (show 0 < 1073741824 by decide)
      have hUb2 := Nat.mod_lt (v / 1073741824 ^ (i + wh) / 1073741824) (show 0 < 1073741824 by decide)
      have hpos : 0 < 2 ^ pt := Nat.two_pow_pos pt
      refine z_iload dX8_dropBits_13 rfl ?_
      refine z_aload_n dX8_dropBits_15 rfl ?_
      refine z_gI 1 dX8_dropBits_16 fl_X8_13 (by first | rfl | assumption) rfl rfl ?_
      rw [hsz]
      refine z_icmp_ge 70 dX8_dropBits_19 (by decide) (fun h19 => ?_) (fun h19 => ?_)
      · omega
      · refine z_aload_n dX8_dropBits_22 rfl ?_
        refine z_iload dX8_dropBits_23 rfl ?_
        refine z_iload_n dX8_dropBits_25 rfl ?_
        refine z_iadd dX8_dropBits_26 (by omega) ?_
        refine z_V1i dX8_dropBits_27 ok_X8_at lk_X8_38 (by first | rfl | assumption) rfl rfl (Nat.le_of_ble_eq_true rfl) (by decide) (cm_X8_at hN' hsz hn) (fun z1 m1 hm1 => ?_)
        obtain ⟨hz1, rfl⟩ := hm1
        have hz1' : z1 = ((v / 1073741824 ^ (i + wh) % 1073741824 : Nat) : Int) := hz1.trans (hrd (i + wh) (by omega))
        clear hz1
        subst hz1'
        refine z_i2l dX8_dropBits_30 ?_
        refine z_aload_n dX8_dropBits_31 rfl ?_
        refine z_iload dX8_dropBits_32 rfl ?_
        refine z_iload_n dX8_dropBits_34 rfl ?_
        refine z_iadd dX8_dropBits_35 (by omega) ?_
        refine z_iconst dX8_dropBits_36 (by decide) ?_
        refine z_iadd dX8_dropBits_37 (by omega) ?_
        refine z_V1i dX8_dropBits_38 ok_X8_at lk_X8_38 (by first | rfl | assumption) rfl rfl (Nat.le_of_ble_eq_true rfl) (by decide) (cm_X8_at hN' hsz hn) (fun z2 m1 hm1 => ?_)
        obtain ⟨hz2, rfl⟩ := hm1
        have hz2' : z2 = ((v / 1073741824 ^ (i + wh) / 1073741824 % 1073741824 : Nat) : Int) := by
          rw [Nat.div_div_eq_div_mul, ← Nat.pow_succ]
          exact hz2.trans (hrd (i + wh + 1) (by omega))
        clear hz2
        subst hz2'
        refine z_i2l dX8_dropBits_41 ?_
        refine z_bipush dX8_dropBits_42 (by decide) ?_
        refine z_lshl dX8_dropBits_44 ?_
        rw [lshl30, w64_id (by omega)]
        refine z_lor dX8_dropBits_45 ?_
        rw [lor_comm, lor_add (by omega) (by omega) (by omega) (by omega)]
        refine z_lstore dX8_dropBits_46 (by decide) rfl ?_
        dsimp only [List.set]
        refine z_aload_n dX8_dropBits_48 rfl ?_
        refine z_getR (ty := .int) dX8_dropBits_49 fl_X8_9 (by first | rfl | assumption) rfl rfl ?_
        refine z_iload dX8_dropBits_52 rfl ?_
        refine z_lload dX8_dropBits_54 rfl ?_
        refine z_iload_n dX8_dropBits_56 rfl ?_
        refine z_lshr dX8_dropBits_57 ?_
        rw [lshrk (by omega) hpt]
        have hsh : (((v / 1073741824 ^ (i + wh) / 1073741824 % 1073741824 : Nat) : Int) * 1073741824 + ((v / 1073741824 ^ (i + wh) % 1073741824 : Nat) : Int)) / ((2 ^ pt : Nat) : Int) = (((v / 1073741824 ^ (i + wh) % 1073741824 + v / 1073741824 ^ (i + wh) / 1073741824 % 1073741824 * 1073741824) / 2 ^ pt : Nat) : Int) := by
          rw [Int.natCast_ediv, Int.natCast_add, Int.natCast_mul, Int.add_comm]
          rfl
        rw [hsh]
        refine z_ldc2 (z := 1073741823) dX8_dropBits_58 kc_X8_17 (by decide) ?_
        refine z_land dX8_dropBits_61 ?_
        rw [land30]
        have hsm : ((((v / 1073741824 ^ (i + wh) % 1073741824 + v / 1073741824 ^ (i + wh) / 1073741824 % 1073741824 * 1073741824) / 2 ^ pt : Nat) : Int)) % 1073741824 = ((v / 2 ^ k / 1073741824 ^ i % 1073741824 : Nat) : Int) := by
          rw [hu i, Int.natCast_emod]
          rfl
        rw [hsm]
        have hfin := Nat.mod_lt (v / 2 ^ k / 1073741824 ^ i) (show 0 < 1073741824 by decide)
        refine z_l2i dX8_dropBits_62 (by omega) ?_
        refine z_iast dX8_dropBits_63 (by first | rfl | assumption) (by omega) (by omega) ?_
        refine z_iinc dX8_dropBits_64 rfl (by omega) (by decide) rfl ?_
        dsimp only [List.set]
        refine z_goto 13 dX8_dropBits_67 (by decide) ?_
        refine z_kill 5 ?_
        dsimp only [List.set]
        refine ih (i + 1) _ (by omega) (hon.tr (onN_set (Or.inr rfl))) (onN.sz hsz) (fun j hj => ?_) (fun j hj => ?_)
        · by_cases e : j = i
          · subst e; rw [mset_eq]
          · rw [mset_nej _ _ (by omega)]; exact hlow j (by omega)
        · rw [mset_nej _ _ (by omega)]; exact hsame j (by omega)
  refine z_iload_n dX8_dropBits_0 rfl ?_
  refine z_bipush dX8_dropBits_1 (by decide) ?_
  refine z_idiv dX8_dropBits_3 (by omega) (by omega) ?_
  rw [show (k : Int) / 30 = (wh : Int) by omega]
  refine z_istore_n dX8_dropBits_4 (by decide) rfl ?_
  dsimp only [List.set]
  refine z_iload_n dX8_dropBits_5 rfl ?_
  refine z_bipush dX8_dropBits_6 (by decide) ?_
  refine z_iremp dX8_dropBits_8 (by omega) (by omega) ?_
  rw [show (k : Int) % 30 = (pt : Int) by omega]
  refine z_istore_n dX8_dropBits_9 (by decide) rfl ?_
  dsimp only [List.set]
  refine z_iconst dX8_dropBits_10 (by decide) ?_
  refine z_istore dX8_dropBits_11 (by decide) rfl ?_
  dsimp only [List.set]
  exact loop n 0 mem (by omega) (onN.rf _ _) hs (fun j hj => by omega) (fun j _ => rfl)
end NatF
