section NatC
variable {X : Nat × (Int → Int)} {G : List GC} {o : Nat} {mem : Mem}
theorem nv_mset {m : Mem} {a i : Nat} {v : Int} : ∀ {n : Nat}, i < n → nv (mset m a (i : Int) v a) n = nv (m a) n + (v - m a (i : Int)) * zB ^ i
  | 0, h => by omega
  | n + 1, h => by
    by_cases e : i = n
    · subst e
      rw [nv_msetS]
      show _ = nv (m a) i + m a (i : Int) * zB ^ i + _
      rw [Int.sub_mul]
      omega
    · show nv _ n + _ * zB ^ n = nv (m a) n + m a (n : Int) * zB ^ n + _
      rw [nv_mset (n := n) (by omega), mset_nej m a (by omega) v]
      omega
theorem nv_msetL {m : Mem} {a i n : Nat} {v : Int} (h : n ≤ i) : nv (mset m a (i : Int) v a) n = nv (m a) n := nv_congr (fun j hj => mset_nej m a (by omega) v)
theorem cm_X8_divide {v : Nat} {f : Int} (hN : isN G o) (hv : natAt mem o v) (hf0 : 0 < f) (hf : f < 2147483648) : CM X (0, 0) 1 mX8_divide G [vr o, vi f] mem (pV G fun m => natAt m o (v / f.toNat) ∧ onN o mem m) := by
  have hN' := hN
  obtain ⟨hg, hg1⟩ := hN
  obtain ⟨n, hs, hn, hd, hvv, -⟩ := hv
  refine CM.of (by decide +kernel) 3 (Nat.le_of_ble_eq_true rfl) ?_
  show ZZ X (0, 0) 1 mX8_divide G 0 [vr o, vi f, vd, vd, vd] [] mem _
  have loop : ∀ (i : Nat) (r : Int) (m : Mem), i ≤ n → 0 ≤ r → r < f → onN o mem m → m o 1 = (n : Int) → dig (m (o + 1)) n → (∀ j : Nat, j < i → m (o + 1) (j : Int) = mem (o + 1) (j : Int)) → (nv (m (o + 1)) n - nv (mem (o + 1)) i) * f + r * zB ^ i + nv (mem (o + 1)) i = (v : Int) →
      ZZ X (0, 0) 1 mX8_divide G 10 [vr o, vi f, vl r, vd, vi ((i : Int) - 1)] [] m (pV G fun m => natAt m o (v / f.toNat) ∧ onN o mem m) := by
    intro i
    induction i with
    | zero =>
      intro r m hi hr0 hr hon hsz hdg hsame hinv
      have hq : nv (m (o + 1)) n = ((v / f.toNat : Nat) : Int) := by
        have e : nv (m (o + 1)) n * f + r = (v : Int) := by simpa [nv] using hinv
        rw [Int.natCast_ediv, Int.toNat_of_nonneg (by omega), ← e, Int.add_comm, Int.add_mul_ediv_right _ _ (by omega), Int.ediv_eq_zero_of_lt hr0 hr]
        omega
      refine z_iload dX8_divide_10 rfl ?_
      refine z_if_lt 56 dX8_divide_12 (by decide) (fun h12 => ?_) (fun h12 => ?_)
      · refine z_aload_n dX8_divide_56 rfl ?_
        refine z_V0v dX8_divide_57 ok_X8_trim lk_X8_23 (by first | rfl | assumption) rfl rfl (Nat.le_of_ble_eq_true rfl) (by decide) (cm_X8_trim hN' hsz hn) (fun m2 hm2 => ?_)
        refine z_vret dX8_divide_60 rfl ?_
        obtain ⟨q1, q2⟩ := trim_nat hn hdg hq hm2
        exact ⟨rfl, rfl, q1, hon.tr q2⟩
      · omega
    | succ i ih =>
      intro r m hi hr0 hr hon hsz hdg hsame hinv
      have hl := hd i (by omega)
      have e1 : ((i + 1 : Nat) : Int) - 1 = (i : Int) := by omega
      rw [e1]
      have hb : r * 1073741824 + mem (o + 1) (i : Int) < f * 1073741824 := by omega
      have hdm := Int.mul_ediv_add_emod (r * 1073741824 + mem (o + 1) (i : Int)) f
      have hm0 := Int.emod_nonneg (r * 1073741824 + mem (o + 1) (i : Int)) (show f ≠ 0 by omega)
      have hm1 := Int.emod_lt_of_pos (r * 1073741824 + mem (o + 1) (i : Int)) hf0
      have hq0 := Int.ediv_nonneg (show 0 ≤ r * 1073741824 + mem (o + 1) (i : Int) by omega) (show 0 ≤ f by omega)
      have hq1 : (r * 1073741824 + mem (o + 1) (i : Int)) / f < 1073741824 := Int.ediv_lt_of_lt_mul hf0 (by omega)
      refine z_iload dX8_divide_10 rfl ?_
      refine z_if_lt 56 dX8_divide_12 (by decide) (fun h12 => ?_) (fun h12 => ?_)
      · omega
      · refine z_iload_n dX8_divide_15 rfl ?_
        refine z_if_le 56 dX8_divide_16 (by decide) (fun h16 => ?_) (fun h16 => ?_)
        · omega
        · refine z_lload_n dX8_divide_19 rfl ?_
          refine z_bipush dX8_divide_20 (by decide) ?_
          refine z_lshl dX8_divide_22 ?_
          rw [lshl30, w64_id (by omega)]
          refine z_aload_n dX8_divide_23 rfl ?_
          refine z_getR (ty := .int) dX8_divide_24 fl_X8_9 (by first | rfl | assumption) rfl rfl ?_
          refine z_iload dX8_divide_27 rfl ?_
          refine z_iald dX8_divide_29 (by first | rfl | assumption) (by omega) (by omega) ?_
          rw [hsame i (by omega)]
          refine z_i2l dX8_divide_30 ?_
          refine z_lor dX8_divide_31 ?_
          rw [lor_add hr0 (by omega) hl.1 hl.2]
          refine z_lstore_n dX8_divide_32 (by decide) rfl ?_
          dsimp only [List.set]
          refine z_aload_n dX8_divide_33 rfl ?_
          refine z_getR (ty := .int) dX8_divide_34 fl_X8_9 (by first | rfl | assumption) rfl rfl ?_
          refine z_iload dX8_divide_37 rfl ?_
          refine z_lload_n dX8_divide_39 rfl ?_
          refine z_iload_n dX8_divide_40 rfl ?_
          refine z_i2l dX8_divide_41 ?_
          refine z_ldiv dX8_divide_42 (by omega) (by omega) ?_
          refine z_l2i dX8_divide_43 (by omega) ?_
          refine z_iast dX8_divide_44 (by first | rfl | assumption) (by omega) (by omega) ?_
          refine z_lload_n dX8_divide_45 rfl ?_
          refine z_iload_n dX8_divide_46 rfl ?_
          refine z_i2l dX8_divide_47 ?_
          refine z_lremp dX8_divide_48 (by omega) (by omega) ?_
          refine z_lstore_n dX8_divide_49 (by decide) rfl ?_
          dsimp only [List.set]
          refine z_iinc dX8_divide_50 rfl (by omega) (by decide) rfl ?_
          dsimp only [List.set]
          refine z_goto 10 dX8_divide_53 (by decide) ?_
          refine ih ((r * 1073741824 + mem (o + 1) (i : Int)) % f) _ (by omega) hm0 hm1 (hon.tr (onN_set (Or.inr rfl))) (onN.sz hsz) (dig_mset hdg hq0 hq1) (fun j hj => ?_) ?_
          · rw [mset_nej _ _ (by omega)]
            exact hsame j (by omega)
          · rw [nv_mset (by omega), hsame i (by omega)]
            have e2 : nv (mem (o + 1)) (i + 1) = nv (mem (o + 1)) i + mem (o + 1) (i : Int) * zB ^ i := rfl
            rw [e2, Int.pow_succ] at hinv
            generalize (r * 1073741824 + mem (o + 1) (i : Int)) / f = qq at hdm ⊢
            generalize (r * 1073741824 + mem (o + 1) (i : Int)) % f = rr at hdm ⊢
            generalize zB ^ i = pp at hinv ⊢
            have hB : zB = 1073741824 := rfl
            rw [hB] at hinv
            grind
  refine z_lconst (z := 0) dX8_divide_0 rfl (by decide) ?_
  refine z_lstore_n dX8_divide_1 (by decide) rfl ?_
  dsimp only [List.set]
  refine z_aload_n dX8_divide_2 rfl ?_
  refine z_gI 1 dX8_divide_3 fl_X8_13 (by first | rfl | assumption) rfl rfl ?_
  rw [hs]
  refine z_iconst dX8_divide_6 (by decide) ?_
  refine z_isub dX8_divide_7 (by omega) ?_
  refine z_istore dX8_divide_8 (by decide) rfl ?_
  dsimp only [List.set]
  exact loop n 0 mem (Nat.le_refl n) (by omega) hf0 (onN.rf _ _) hs hd (fun j _ => rfl) (by rw [hvv]; omega)
theorem cm_X8_remainder {v : Nat} {f : Int} (hN : isN G o) (hv : natAt mem o v) (hf0 : 0 < f) (hf : f < 2147483648) : CM X (0, 0) 0 mX8_remainder G [vr o, vi f] mem (pI G fun z m => z = (v : Int) % f ∧ m = mem) := by
  obtain ⟨hg, hg1⟩ := hN
  obtain ⟨n, hs, hn, hd, hvv, -⟩ := hv
  refine CM.of (by decide +kernel) 3 (Nat.le_of_ble_eq_true rfl) ?_
  show ZZ X (0, 0) 0 mX8_remainder G 0 [vr o, vi f, vd, vd, vd] [] mem _
  have loop : ∀ (i : Nat) (r q : Int), i ≤ n → 0 ≤ r → r < f → q * f * zB ^ i + r * zB ^ i + nv (mem (o + 1)) i = (v : Int) →
      ZZ X (0, 0) 0 mX8_remainder G 10 [vr o, vi f, vl r, vd, vi ((i : Int) - 1)] [] mem (pI G fun z m => z = (v : Int) % f ∧ m = mem) := by
    intro i
    induction i with
    | zero =>
      intro r q hi hr0 hr hinv
      refine z_iload dX8_remainder_10 rfl ?_
      refine z_if_lt 42 dX8_remainder_12 (by decide) (fun h12 => ?_) (fun h12 => ?_)
      · refine z_lload_n dX8_remainder_42 rfl ?_
        refine z_l2i dX8_remainder_43 (by omega) ?_
        refine z_iret dX8_remainder_44 rfl ?_
        refine ⟨rfl, _, rfl, ?_, rfl⟩
        have e : q * f + r = (v : Int) := by simpa [nv] using hinv
        rw [← e, Int.add_comm, Int.add_mul_emod_self_right, Int.emod_eq_of_lt hr0 hr]
      · omega
    | succ i ih =>
      intro r q hi hr0 hr hinv
      have hl := hd i (by omega)
      have e1 : ((i + 1 : Nat) : Int) - 1 = (i : Int) := by omega
      rw [e1]
      have hdm := Int.mul_ediv_add_emod (r * 1073741824 + mem (o + 1) (i : Int)) f
      have hm0 := Int.emod_nonneg (r * 1073741824 + mem (o + 1) (i : Int)) (show f ≠ 0 by omega)
      have hm1 := Int.emod_lt_of_pos (r * 1073741824 + mem (o + 1) (i : Int)) hf0
      refine z_iload dX8_remainder_10 rfl ?_
      refine z_if_lt 42 dX8_remainder_12 (by decide) (fun h12 => ?_) (fun h12 => ?_)
      · omega
      · refine z_iload_n dX8_remainder_15 rfl ?_
        refine z_if_le 42 dX8_remainder_16 (by decide) (fun h16 => ?_) (fun h16 => ?_)
        · omega
        · refine z_lload_n dX8_remainder_19 rfl ?_
          refine z_bipush dX8_remainder_20 (by decide) ?_
          refine z_lshl dX8_remainder_22 ?_
          rw [lshl30, w64_id (by omega)]
          refine z_aload_n dX8_remainder_23 rfl ?_
          refine z_getR (ty := .int) dX8_remainder_24 fl_X8_9 (by first | rfl | assumption) rfl rfl ?_
          refine z_iload dX8_remainder_27 rfl ?_
          refine z_iald dX8_remainder_29 (by first | rfl | assumption) (by omega) (by omega) ?_
          refine z_i2l dX8_remainder_30 ?_
          refine z_lor dX8_remainder_31 ?_
          rw [lor_add hr0 (by omega) hl.1 hl.2]
          refine z_iload_n dX8_remainder_32 rfl ?_
          refine z_i2l dX8_remainder_33 ?_
          refine z_lremp dX8_remainder_34 (by omega) (by omega) ?_
          refine z_lstore_n dX8_remainder_35 (by decide) rfl ?_
          dsimp only [List.set]
          refine z_iinc dX8_remainder_36 rfl (by omega) (by decide) rfl ?_
          dsimp only [List.set]
          refine z_goto 10 dX8_remainder_39 (by decide) ?_
          refine ih _ (q * 1073741824 + (r * 1073741824 + mem (o + 1) (i : Int)) / f) (by omega) hm0 hm1 ?_
          have e2 : nv (mem (o + 1)) (i + 1) = nv (mem (o + 1)) i + mem (o + 1) (i : Int) * zB ^ i := rfl
          rw [e2, Int.pow_succ] at hinv
          generalize (r * 1073741824 + mem (o + 1) (i : Int)) / f = qq at hdm ⊢
          generalize (r * 1073741824 + mem (o + 1) (i : Int)) % f = rr at hdm ⊢
          generalize zB ^ i = pp at hinv ⊢
          have hB : zB = 1073741824 := rfl
          rw [hB] at hinv
          grind
  refine z_lconst (z := 0) dX8_remainder_0 rfl (by decide) ?_
  refine z_lstore_n dX8_remainder_1 (by decide) rfl ?_
  dsimp only [List.set]
  refine z_aload_n dX8_remainder_2 rfl ?_
  refine z_gI 1 dX8_remainder_3 fl_X8_13 (by first | rfl | assumption) rfl rfl ?_
  rw [hs]
  refine z_iconst dX8_remainder_6 (by decide) ?_
  refine z_isub dX8_remainder_7 (by omega) ?_
  refine z_istore dX8_remainder_8 (by decide) rfl ?_
  dsimp only [List.set]
  exact loop n 0 0 (Nat.le_refl n) (by omega) hf0 (by rw [hvv]; omega)
-- a row read with noughts behind its end
def padR (f : Int → Int) (n : Nat) : Int → Int := fun j => if 0 ≤ j ∧ j < (n : Int) then f j else 0
theorem dig_pad {f : Int → Int} {n k : Nat} (h : dig f n) : dig (padR f n) k := by
  intro i hi
  unfold padR
  split
  · exact h i (by omega)
  · exact ⟨by decide, by decide⟩
theorem nv_padR {f : Int → Int} {n k : Nat} (h : n ≤ k) : nv (padR f n) k = nv f n := by
  rw [nv_pad h (fun i h1 h2 => by unfold padR; rw [if_neg (by omega)])]
  exact nv_congr (fun i hi => by unfold padR; rw [if_pos (by omega)])
theorem cm_X8_add {p v w : Nat} (hN : isN G o) (hM : isN G p) (hv : natAt mem o v) (hw : natAt mem p w) (ha : p ≠ o ∧ p ≠ o + 1 ∧ p + 1 ≠ o) (hb : ((v + w : Nat) : Int) < zB ^ 64) : CM X (0, 0) 1 mX8_add G [vr o, vr p] mem (pV G fun m => natAt m o (v + w) ∧ onN o mem m) := by
  have hN' := hN
  have hM' := hM
  obtain ⟨hg, hg1⟩ := hN
  obtain ⟨hgp, hgp1⟩ := hM
  obtain ⟨n, hs, hn, hd, hvv, -⟩ := hv
  obtain ⟨n2, hs2, hn2, hd2, hvv2, -⟩ := hw
  obtain ⟨ha1, ha2, ha3⟩ := ha
  obtain ⟨lg, hlg, hl1, hl2, hl64⟩ : ∃ lg : Nat, (if (n : Int) < (n2 : Int) then (n2 : Int) else (n : Int)) = (lg : Int) ∧ n ≤ lg ∧ n2 ≤ lg ∧ lg ≤ 64 := by
    by_cases q : n < n2
    · exact ⟨n2, by rw [if_pos (by omega)], by omega, by omega, by omega⟩
    · exact ⟨n, by rw [if_neg (by omega)], by omega, by omega, by omega⟩
  refine CM.of (by decide +kernel) 4 (Nat.le_of_ble_eq_true rfl) ?_
  show ZZ X (0, 0) 1 mX8_add G 0 [vr o, vr p, vd, vd, vd, vd] [] mem _
  have loop : ∀ (k i : Nat) (c : Int) (m : Mem), k + i = lg → (c = 0 ∨ c = 1) → onN o mem m → m o 1 = (n : Int) → dig (m (o + 1)) i → (∀ j : Nat, i ≤ j → m (o + 1) (j : Int) = mem (o + 1) (j : Int)) → nv (m (o + 1)) i + c * zB ^ i = nv (padR (mem (o + 1)) n) i + nv (padR (mem (p + 1)) n2) i →
      ZZ X (0, 0) 1 mX8_add G 17 [vr o, vr p, vi (lg : Int), vi c, vi (i : Int), vd] [] m (pV G fun m => natAt m o (v + w) ∧ onN o mem m) := by
    intro k
    induction k with
    | zero =>
      intro i c m hk hc hon hsz hdg hsame hinv
      have hi : i = lg := by omega
      subst hi
      rw [nv_padR hl1, nv_padR hl2, hvv, hvv2] at hinv
      refine z_iload dX8_add_17 rfl ?_
      refine z_iload_n dX8_add_19 rfl ?_
      refine z_icmp_ge 64 dX8_add_20 (by decide) (fun h20 => ?_) (fun h20 => ?_)
      · refine z_aload_n dX8_add_64 rfl ?_
        refine z_iload_n dX8_add_65 rfl ?_
        refine z_pI 1 dX8_add_66 fm_X8_13 (by first | rfl | assumption) rfl rfl ?_
        refine z_aload_n dX8_add_69 rfl ?_
        refine z_iload_n dX8_add_70 rfl ?_
        refine z_V1v dX8_add_71 ok_X8_append lk_X8_19 (by first | rfl | assumption) rfl rfl (Nat.le_of_ble_eq_true rfl) (by decide) (cm_X8_append (n := i) hN' (mset_eq _ _ _ _) hl64) (fun m1 hm1 => ?_)
        by_cases hlt : i < 64
        · rw [if_pos hlt] at hm1
          have e1 : m1 o 1 = ((i + 1 : Nat) : Int) := by rw [hm1, mset_eq]; omega
          have e2 : m1 (o + 1) = mset m (o + 1) (i : Int) c (o + 1) := by rw [hm1, mset_ne _ (by omega), mset_at, mset_at, mset_ne _ (by omega)]
          have e3 : dig (m1 (o + 1)) (i + 1) := by rw [e2]; exact dig_msetS hdg (by omega) (by omega)
          have e4 : nv (m1 (o + 1)) (i + 1) = ((v + w : Nat) : Int) := by rw [e2, nv_msetS, hinv]; omega
          refine z_aload_n dX8_add_74 rfl ?_
          refine z_V0v dX8_add_75 ok_X8_trim lk_X8_23 (by first | rfl | assumption) rfl rfl (by decide) (by decide) (cm_X8_trim hN' e1 (by omega)) (fun m2 hm2 => ?_)
          refine z_vret dX8_add_78 rfl ?_
          obtain ⟨q1, q2⟩ := trim_nat (by omega) e3 e4 hm2
          exact ⟨rfl, rfl, q1, (hon.tr (by rw [hm1]; exact ((onN_set (Or.inl rfl)).tr (onN_set (Or.inr rfl))).tr (onN_set (Or.inl rfl)))).tr q2⟩
        · rw [if_neg hlt] at hm1
          have hi64 : i = 64 := by omega
          subst hm1
          have hc00 : c = 0 := by
            have h1 := nv_nonneg hdg
            rcases hc with q | q
            · exact q
            · rw [q, hi64] at hinv
              rw [hi64] at h1
              omega
          have e0 : mset m o 1 (i : Int) (o + 1) = m (o + 1) := mset_ne _ (by omega) _ _
          refine z_aload_n dX8_add_74 rfl ?_
          refine z_V0v dX8_add_75 ok_X8_trim lk_X8_23 (by first | rfl | assumption) rfl rfl (by decide) (by decide) (cm_X8_trim hN' (mset_eq _ _ _ _) hl64) (fun m2 hm2 => ?_)
          refine z_vret dX8_add_78 rfl ?_
          obtain ⟨q1, q2⟩ := trim_nat (v := v + w) hl64 (by rw [e0]; exact hdg) (by rw [e0]; rw [hc00] at hinv; omega) hm2
          exact ⟨rfl, rfl, q1, (hon.tr (onN_set (Or.inl rfl))).tr q2⟩
      · omega
    | succ k ih =>
      intro i c m hk hc hon hsz hdg hsame hinv
      have hA := dig_pad (k := i + 1) hd i (by omega)
      have hC := dig_pad (k := i + 1) hd2 i (by omega)
      have hmp : m p 1 = (n2 : Int) := by rw [hon p ha1 ha2]; exact hs2
      have hmp1 : m (p + 1) = mem (p + 1) := hon (p + 1) ha3 (by omega)
      refine z_iload dX8_add_17 rfl ?_
      refine z_iload_n dX8_add_19 rfl ?_
      refine z_icmp_ge 64 dX8_add_20 (by decide) (fun h20 => ?_) (fun h20 => ?_)
      · omega
      · refine z_aload_n dX8_add_23 rfl ?_
        refine z_iload dX8_add_24 rfl ?_
        refine z_V1i dX8_add_26 ok_X8_at lk_X8_38 (by first | rfl | assumption) rfl rfl (Nat.le_of_ble_eq_true rfl) (by decide) (cm_X8_at hN' hsz hn) (fun z1 m1 hm1 => ?_)
        obtain ⟨hz1, rfl⟩ := hm1
        have hz1' : z1 = padR (mem (o + 1)) n (i : Int) := by rw [hz1]; unfold padR; rw [hsame i (Nat.le_refl i)]
        clear hz1
        subst hz1'
        refine z_aload_n dX8_add_29 rfl ?_
        refine z_iload dX8_add_30 rfl ?_
        refine z_V1i dX8_add_32 ok_X8_at lk_X8_38 (by first | rfl | assumption) rfl rfl (Nat.le_of_ble_eq_true rfl) (by decide) (cm_X8_at hM' hmp hn2) (fun z2 m1 hm1 => ?_)
        obtain ⟨hz2, rfl⟩ := hm1
        rw [hmp1] at hz2
        have hz2' : z2 = padR (mem (p + 1)) n2 (i : Int) := hz2
        clear hz2
        subst hz2'
        refine z_iadd dX8_add_35 (by omega) ?_
        refine z_iload_n dX8_add_36 rfl ?_
        refine z_iadd dX8_add_37 (by omega) ?_
        refine z_istore dX8_add_38 (by decide) rfl ?_
        dsimp only [List.set]
        refine z_aload_n dX8_add_40 rfl ?_
        refine z_getR (ty := .int) dX8_add_41 fl_X8_9 (by first | rfl | assumption) rfl rfl ?_
        refine z_iload dX8_add_44 rfl ?_
        refine z_iload dX8_add_46 rfl ?_
        refine z_ldc (z := 1073741823) dX8_add_48 kc_X8_42 (by decide) ?_
        refine z_iand dX8_add_50 ?_
        rw [iand30]
        refine z_iast dX8_add_51 (by first | rfl | assumption) (by omega) (by omega) ?_
        refine z_iload dX8_add_52 rfl ?_
        refine z_bipush dX8_add_54 (by decide) ?_
        refine z_iushr dX8_add_56 ?_
        rw [iush30 (by omega) (by omega)]
        refine z_istore_n dX8_add_57 (by decide) rfl ?_
        dsimp only [List.set]
        refine z_iinc dX8_add_58 rfl (by omega) (by decide) rfl ?_
        dsimp only [List.set]
        refine z_goto 17 dX8_add_61 (by decide) ?_
        refine z_kill 5 ?_
        dsimp only [List.set]
        refine ih (i + 1) _ _ (by omega) (by omega) (hon.tr (onN_set (Or.inr rfl))) (onN.sz hsz) (dig_msetS hdg (by omega) (by omega)) (fun j hj => ?_) ?_
        · rw [mset_nej _ _ (by omega)]
          exact hsame j (by omega)
        · show _ = (nv _ i + padR (mem (o + 1)) n (i : Int) * zB ^ i) + (nv _ i + padR (mem (p + 1)) n2 (i : Int) * zB ^ i)
          rw [nv_msetS]
          have hdm := Int.mul_ediv_add_emod (padR (mem (o + 1)) n (i : Int) + padR (mem (p + 1)) n2 (i : Int) + c) 1073741824
          rw [Int.pow_succ]
          generalize (padR (mem (o + 1)) n (i : Int) + padR (mem (p + 1)) n2 (i : Int) + c) / 1073741824 = qq at hdm ⊢
          generalize (padR (mem (o + 1)) n (i : Int) + padR (mem (p + 1)) n2 (i : Int) + c) % 1073741824 = rr at hdm ⊢
          generalize zB ^ i = pp at hinv ⊢
          have hB : zB = 1073741824 := rfl
          rw [hB]
          grind
  refine z_aload_n dX8_add_0 rfl ?_
  refine z_gI 1 dX8_add_1 fl_X8_13 (by first | rfl | assumption) rfl rfl ?_
  rw [hs]
  refine z_aload_n dX8_add_4 rfl ?_
  refine z_gI 1 dX8_add_5 fl_X8_13 (by first | rfl | assumption) rfl rfl ?_
  rw [hs2]
  refine z_max dX8_add_8 lm_X8_32 (by decide) (Nat.le_of_ble_eq_true rfl) ?_
  rw [hlg]
  refine z_istore_n dX8_add_11 (by decide) rfl ?_
  dsimp only [List.set]
  refine z_iconst dX8_add_12 (by decide) ?_
  refine z_istore_n dX8_add_13 (by decide) rfl ?_
  dsimp only [List.set]
  refine z_iconst dX8_add_14 (by decide) ?_
  refine z_istore dX8_add_15 (by decide) rfl ?_
  dsimp only [List.set]
  exact loop lg 0 0 mem (by omega) (Or.inl rfl) (onN.rf _ _) hs (fun i hi => by omega) (fun j _ => rfl) (by simp [nv])
end NatC
