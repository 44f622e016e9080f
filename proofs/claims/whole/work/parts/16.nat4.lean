section NatD
variable {X : Nat × (Int → Int)} {G : List GC} {o : Nat} {mem : Mem}
theorem zB_le {k m : Nat} (h : k ≤ m) : zB ^ k ≤ zB ^ m := by
  obtain ⟨t, rfl⟩ := Nat.exists_eq_add_of_le h
  rw [Int.pow_add]
  have h1 := zB_pos k
  have h2 : 1 ≤ zB ^ t := by have := zB_pos t; omega
  have h3 := Int.mul_le_mul_of_nonneg_left h2 (Int.le_of_lt h1)
  omega
theorem nv_top {f : Int → Int} {n k : Nat} (hd : dig f n) (hc : n = 0 ∨ f ((n : Int) - 1) ≠ 0) (hlt : nv f n < zB ^ k) : n ≤ k := by
  match n, hd, hc, hlt with
  | 0, _, _, _ => omega
  | m + 1, hd, hc, hlt =>
    have h1 := nv_nonneg (n := m) (fun i hi => hd i (by omega))
    have h2 : f (m : Int) ≠ 0 := by
      rcases hc with q | q
      · omega
      · rw [show ((m + 1 : Nat) : Int) - 1 = (m : Int) by omega] at q
        exact q
    have h3 := (hd m (by omega)).1
    have h4 : 1 * zB ^ m ≤ f (m : Int) * zB ^ m := Int.mul_le_mul_of_nonneg_right (by omega) (Int.le_of_lt (zB_pos m))
    have h5 : nv f (m + 1) = nv f m + f (m : Int) * zB ^ m := rfl
    by_cases q : m < k
    · omega
    · have h6 : zB ^ k ≤ zB ^ m := zB_le (by omega)
      omega
theorem nv_diff {f g : Int → Int} {k : Nat} : ∀ {n : Nat}, k ≤ n → (∀ j : Nat, k ≤ j → j < n → f (j : Int) = g (j : Int)) → nv f n - nv f k = nv g n - nv g k
  | 0, h, _ => by rw [show k = 0 by omega]; omega
  | n + 1, h, hs => by
    by_cases e : k = n + 1
    · rw [e]; omega
    · have ih := nv_diff (n := n) (by omega) (fun j h1 h2 => hs j h1 (by omega))
      show nv f n + f (n : Int) * zB ^ n - _ = nv g n + g (n : Int) * zB ^ n - _
      rw [hs n (by omega) (by omega)]
      omega
theorem nv_less {f g : Int → Int} {i n : Nat} (hi : i < n) (hf : dig f n) (hg : dig g n) (hs : ∀ j : Nat, i + 1 ≤ j → j < n → f (j : Int) = g (j : Int)) (h : f (i : Int) < g (i : Int)) : nv f n < nv g n := by
  have h1 := nv_diff (show i + 1 ≤ n by omega) hs
  have h2 := nv_lt (f := f) (n := i) (fun j hj => hf j (by omega))
  have h3 := nv_nonneg (f := g) (n := i) (fun j hj => hg j (by omega))
  have h4 : nv f (i + 1) = nv f i + f (i : Int) * zB ^ i := rfl
  have h5 : nv g (i + 1) = nv g i + g (i : Int) * zB ^ i := rfl
  have h6 : (f (i : Int) + 1) * zB ^ i ≤ g (i : Int) * zB ^ i := Int.mul_le_mul_of_nonneg_right (by omega) (Int.le_of_lt (zB_pos i))
  rw [Int.add_mul] at h6
  omega
theorem cm_X8_subtract {p v w : Nat} (hN : isN G o) (hM : isN G p) (hv : natAt mem o v) (hw : natAt mem p w) (ha : p ≠ o ∧ p ≠ o + 1 ∧ p + 1 ≠ o) (hb : w ≤ v) : CM X (0, 0) 1 mX8_subtract G [vr o, vr p] mem (pV G fun m => natAt m o (v - w) ∧ onN o mem m) := by
  have hN' := hN
  have hM' := hM
  obtain ⟨hg, hg1⟩ := hN
  obtain ⟨hgp, hgp1⟩ := hM
  obtain ⟨n, hs, hn, hd, hvv, -⟩ := hv
  obtain ⟨n2, hs2, hn2, hd2, hvv2, htop2⟩ := hw
  obtain ⟨ha1, ha2, ha3⟩ := ha
  have hvlt := nv_lt hd
  have hnn : n2 ≤ n := nv_top hd2 htop2 (by omega)
  refine CM.of (by decide +kernel) 3 (Nat.le_of_ble_eq_true rfl) ?_
  show ZZ X (0, 0) 1 mX8_subtract G 0 [vr o, vr p, vd, vd, vd] [] mem _
  have loop : ∀ (k i : Nat) (c : Int) (m : Mem), k + i = n → (c = 0 ∨ c = 1) → onN o mem m → m o 1 = (n : Int) → dig (m (o + 1)) i → (∀ j : Nat, i ≤ j → m (o + 1) (j : Int) = mem (o + 1) (j : Int)) → nv (m (o + 1)) i - c * zB ^ i = nv (mem (o + 1)) i - nv (padR (mem (p + 1)) n2) i →
      ZZ X (0, 0) 1 mX8_subtract G 4 [vr o, vr p, vi c, vi (i : Int), vd] [] m (pV G fun m => natAt m o (v - w) ∧ onN o mem m) := by
    intro k
    induction k with
    | zero =>
      intro i c m hk hc hon hsz hdg hsame hinv
      have hi : i = n := by omega
      subst hi
      rw [nv_padR hnn, hvv, hvv2] at hinv
      have hlt := nv_lt hdg
      have hq : nv (m (o + 1)) i = ((v - w : Nat) : Int) := by
        rcases hc with q | q
        · rw [q] at hinv; omega
        · rw [q] at hinv; omega
      refine z_iload_n dX8_subtract_4 rfl ?_
      refine z_aload_n dX8_subtract_5 rfl ?_
      refine z_gI 1 dX8_subtract_6 fl_X8_13 (by first | rfl | assumption) rfl rfl ?_
      rw [hsz]
      refine z_icmp_ge 51 dX8_subtract_9 (by decide) (fun h9 => ?_) (fun h9 => ?_)
      · refine z_aload_n dX8_subtract_51 rfl ?_
        refine z_V0v dX8_subtract_52 ok_X8_trim lk_X8_23 (by first | rfl | assumption) rfl rfl (Nat.le_of_ble_eq_true rfl) (by decide) (cm_X8_trim hN' hsz hn) (fun m2 hm2 => ?_)
        refine z_vret dX8_subtract_55 rfl ?_
        obtain ⟨q1, q2⟩ := trim_nat hn hdg hq hm2
        exact ⟨rfl, rfl, q1, hon.tr q2⟩
      · omega
    | succ k ih =>
      intro i c m hk hc hon hsz hdg hsame hinv
      have hA := hd i (by omega)
      have hC := dig_pad (k := i + 1) hd2 i (by omega)
      have hmp : m p 1 = (n2 : Int) := by rw [hon p ha1 ha2]; exact hs2
      have hmp1 : m (p + 1) = mem (p + 1) := hon (p + 1) ha3 (by omega)
      refine z_iload_n dX8_subtract_4 rfl ?_
      refine z_aload_n dX8_subtract_5 rfl ?_
      refine z_gI 1 dX8_subtract_6 fl_X8_13 (by first | rfl | assumption) rfl rfl ?_
      rw [hsz]
      refine z_icmp_ge 51 dX8_subtract_9 (by decide) (fun h9 => ?_) (fun h9 => ?_)
      · omega
      · refine z_aload_n dX8_subtract_12 rfl ?_
        refine z_getR (ty := .int) dX8_subtract_13 fl_X8_9 (by first | rfl | assumption) rfl rfl ?_
        refine z_iload_n dX8_subtract_16 rfl ?_
        refine z_iald dX8_subtract_17 (by first | rfl | assumption) (by omega) (by omega) ?_
        rw [hsame i (Nat.le_refl i)]
        refine z_aload_n dX8_subtract_18 rfl ?_
        refine z_iload_n dX8_subtract_19 rfl ?_
        refine z_V1i dX8_subtract_20 ok_X8_at lk_X8_38 (by first | rfl | assumption) rfl rfl (Nat.le_of_ble_eq_true rfl) (by decide) (cm_X8_at hM' hmp hn2) (fun z2 m1 hm1 => ?_)
        obtain ⟨hz2, rfl⟩ := hm1
        rw [hmp1] at hz2
        have hz2' : z2 = padR (mem (p + 1)) n2 (i : Int) := hz2
        clear hz2
        subst hz2'
        refine z_isub dX8_subtract_23 (by omega) ?_
        refine z_iload_n dX8_subtract_24 rfl ?_
        refine z_isub dX8_subtract_25 (by omega) ?_
        refine z_istore dX8_subtract_26 (by decide) rfl ?_
        dsimp only [List.set]
        refine z_aload_n dX8_subtract_28 rfl ?_
        refine z_getR (ty := .int) dX8_subtract_29 fl_X8_9 (by first | rfl | assumption) rfl rfl ?_
        refine z_iload_n dX8_subtract_32 rfl ?_
        refine z_iload dX8_subtract_33 rfl ?_
        refine z_ldc (z := 1073741823) dX8_subtract_35 kc_X8_42 (by decide) ?_
        refine z_iand dX8_subtract_37 ?_
        rw [iand30]
        refine z_iast dX8_subtract_38 (by first | rfl | assumption) (by omega) (by omega) ?_
        refine z_iload dX8_subtract_39 rfl ?_
        refine z_bipush dX8_subtract_41 (by decide) ?_
        refine z_iushr dX8_subtract_43 ?_
        rw [iush31 (by omega)]
        refine z_istore_n dX8_subtract_44 (by decide) rfl ?_
        dsimp only [List.set]
        refine z_iinc dX8_subtract_45 rfl (by omega) (by decide) rfl ?_
        dsimp only [List.set]
        refine z_goto 4 dX8_subtract_48 (by decide) ?_
        refine z_kill 4 ?_
        dsimp only [List.set]
        refine ih (i + 1) _ _ (by omega) (by split <;> simp) (hon.tr (onN_set (Or.inr rfl))) (onN.sz hsz) (dig_msetS hdg (by omega) (by omega)) (fun j hj => ?_) ?_
        · rw [mset_nej _ _ (by omega)]
          exact hsame j (by omega)
        · show _ = (nv _ i + mem (o + 1) (i : Int) * zB ^ i) - (nv _ i + padR (mem (p + 1)) n2 (i : Int) * zB ^ i)
          rw [nv_msetS, Int.pow_succ]
          have hdm : (mem (o + 1) (i : Int) - padR (mem (p + 1)) n2 (i : Int) - c) % 1073741824 = (mem (o + 1) (i : Int) - padR (mem (p + 1)) n2 (i : Int) - c) + (if mem (o + 1) (i : Int) - padR (mem (p + 1)) n2 (i : Int) - c < 0 then 1 else 0) * 1073741824 := by split <;> omega
          rw [hdm]
          generalize (if mem (o + 1) (i : Int) - padR (mem (p + 1)) n2 (i : Int) - c < 0 then (1 : Int) else 0) = qq
          generalize zB ^ i = pp at hinv ⊢
          have hB : zB = 1073741824 := rfl
          rw [hB]
          grind
  refine z_iconst dX8_subtract_0 (by decide) ?_
  refine z_istore_n dX8_subtract_1 (by decide) rfl ?_
  dsimp only [List.set]
  refine z_iconst dX8_subtract_2 (by decide) ?_
  refine z_istore_n dX8_subtract_3 (by decide) rfl ?_
  dsimp only [List.set]
  exact loop n 0 0 mem (by omega) (Or.inl rfl) (onN.rf _ _) hs (fun i hi => by omega) (fun j _ => rfl) (by simp [nv])
theorem cm_J6_compare {x y : Int} : CM X (0, 0) 0 mJ6_compare_7cf53 G [vi x, vi y] mem (pI G fun z m => z = (if x < y then -1 else if x = y then 0 else 1) ∧ m = mem) := by
  refine CM.of (by decide +kernel) 0 (Nat.le_of_ble_eq_true rfl) ?_
  show ZZ X (0, 0) 0 mJ6_compare_7cf53 G 0 [vi x, vi y] [] mem _
  refine z_iload_n dJ6_compare_7cf53_0 rfl ?_
  refine z_iload_n dJ6_compare_7cf53_1 rfl ?_
  refine z_icmp_ge 9 dJ6_compare_7cf53_2 (by decide) (fun h2 => ?_) (fun h2 => ?_)
  · refine z_iload_n dJ6_compare_7cf53_9 rfl ?_
    refine z_iload_n dJ6_compare_7cf53_10 rfl ?_
    refine z_icmp_ne 18 dJ6_compare_7cf53_11 (by decide) (fun h11 => ?_) (fun h11 => ?_)
    · refine z_iconst dJ6_compare_7cf53_18 (by decide) ?_
      refine z_iret dJ6_compare_7cf53_19 rfl ?_
      refine ⟨rfl, _, rfl, ?_, rfl⟩
      first | (rw [if_pos (by omega)]; done) | (rw [if_neg (by omega), if_pos (by omega)]; done) | (rw [if_neg (by omega), if_neg (by omega)]; done)
    · refine z_iconst dJ6_compare_7cf53_14 (by decide) ?_
      refine z_goto 19 dJ6_compare_7cf53_15 (by decide) ?_
      refine z_iret dJ6_compare_7cf53_19 rfl ?_
      refine ⟨rfl, _, rfl, ?_, rfl⟩
      first | (rw [if_pos (by omega)]; done) | (rw [if_neg (by omega), if_pos (by omega)]; done) | (rw [if_neg (by omega), if_neg (by omega)]; done)
  · refine z_iconst dJ6_compare_7cf53_5 (by decide) ?_
    refine z_goto 19 dJ6_compare_7cf53_6 (by decide) ?_
    refine z_iret dJ6_compare_7cf53_19 rfl ?_
    refine ⟨rfl, _, rfl, ?_, rfl⟩
    first | (rw [if_pos (by omega)]; done) | (rw [if_neg (by omega), if_pos (by omega)]; done) | (rw [if_neg (by omega), if_neg (by omega)]; done)
theorem cm_X8_compareWith {p v w : Nat} (hN : isN G o) (hM : isN G p) (hv : natAt mem o v) (hw : natAt mem p w) : CM X (0, 0) 1 mX8_compareWith G [vr o, vr p] mem (pI G fun z m => z = (if v < w then -1 else if v = w then 0 else 1) ∧ m = mem) := by
  have hN' := hN
  have hM' := hM
  obtain ⟨hg, hg1⟩ := hN
  obtain ⟨hgp, hgp1⟩ := hM
  obtain ⟨n, hs, hn, hd, hvv, -⟩ := hv
  obtain ⟨n2, hs2, hn2, hd2, hvv2, -⟩ := hw
  obtain ⟨lg, hlg, hl1, hl2, hl64⟩ : ∃ lg : Nat, (if (n : Int) < (n2 : Int) then (n2 : Int) else (n : Int)) = (lg : Int) ∧ n ≤ lg ∧ n2 ≤ lg ∧ lg ≤ 64 := by
    by_cases q : n < n2
    · exact ⟨n2, by rw [if_pos (by omega)], by omega, by omega, by omega⟩
    · exact ⟨n, by rw [if_neg (by omega)], by omega, by omega, by omega⟩
  have hV : nv (padR (mem (o + 1)) n) lg = (v : Int) := by rw [nv_padR hl1, hvv]
  have hW : nv (padR (mem (p + 1)) n2) lg = (w : Int) := by rw [nv_padR hl2, hvv2]
  refine CM.of (by decide +kernel) 1 (Nat.le_of_ble_eq_true rfl) ?_
  show ZZ X (0, 0) 1 mX8_compareWith G 0 [vr o, vr p, vd] [] mem _
  have loop : ∀ (i : Nat), i ≤ lg → (∀ j : Nat, i ≤ j → j < lg → padR (mem (o + 1)) n (j : Int) = padR (mem (p + 1)) n2 (j : Int)) →
      ZZ X (0, 0) 1 mX8_compareWith G 14 [vr o, vr p, vi ((i : Int) - 1)] [] mem (pI G fun z m => z = (if v < w then -1 else if v = w then 0 else 1) ∧ m = mem) := by
    intro i
    induction i with
    | zero =>
      intro hi hsame
      have heq : v = w := by
        have := nv_congr (n := lg) (fun j hj => hsame j (by omega) hj)
        rw [hV, hW] at this
        omega
      refine z_iload_n dX8_compareWith_14 rfl ?_
      refine z_if_lt 51 dX8_compareWith_15 (by decide) (fun h15 => ?_) (fun h15 => ?_)
      · refine z_iconst dX8_compareWith_51 (by decide) ?_
        refine z_iret dX8_compareWith_52 rfl ?_
        exact ⟨rfl, _, rfl, by rw [if_neg (by omega), if_pos heq], rfl⟩
      · omega
    | succ i ih =>
      intro hi hsame
      have e1 : ((i + 1 : Nat) : Int) - 1 = (i : Int) := by omega
      rw [e1]
      refine z_iload_n dX8_compareWith_14 rfl ?_
      refine z_if_lt 51 dX8_compareWith_15 (by decide) (fun h15 => ?_) (fun h15 => ?_)
      · omega
      · refine z_aload_n dX8_compareWith_18 rfl ?_
        refine z_iload_n dX8_compareWith_19 rfl ?_
        refine z_V1i dX8_compareWith_20 ok_X8_at lk_X8_38 (by first | rfl | assumption) rfl rfl (Nat.le_of_ble_eq_true rfl) (by decide) (cm_X8_at hN' hs hn) (fun z1 m1 hm1 => ?_)
        obtain ⟨hz1, rfl⟩ := hm1
        have hz1' : z1 = padR (m1 (o + 1)) n (i : Int) := hz1
        clear hz1
        subst hz1'
        refine z_aload_n dX8_compareWith_23 rfl ?_
        refine z_iload_n dX8_compareWith_24 rfl ?_
        refine z_V1i dX8_compareWith_25 ok_X8_at lk_X8_38 (by first | rfl | assumption) rfl rfl (Nat.le_of_ble_eq_true rfl) (by decide) (cm_X8_at hM' hs2 hn2) (fun z2 m1 hm1 => ?_)
        obtain ⟨hz2, rfl⟩ := hm1
        have hz2' : z2 = padR (m1 (p + 1)) n2 (i : Int) := hz2
        clear hz2
        subst hz2'
        refine z_icmp_eq 45 dX8_compareWith_28 (by decide) (fun h28 => ?_) (fun h28 => ?_)
        · refine z_iinc dX8_compareWith_45 rfl (by omega) (by decide) rfl ?_
          dsimp only [List.set]
          refine z_goto 14 dX8_compareWith_48 (by decide) ?_
          exact ih (by omega) (fun j h1 h2 => by by_cases e : j = i; exact e ▸ h28; exact hsame j (by omega) h2)
        · refine z_aload_n dX8_compareWith_31 rfl ?_
          refine z_iload_n dX8_compareWith_32 rfl ?_
          refine z_V1i dX8_compareWith_33 ok_X8_at lk_X8_38 (by first | rfl | assumption) rfl rfl (Nat.le_of_ble_eq_true rfl) (by decide) (cm_X8_at hN' hs hn) (fun z1 m1 hm1 => ?_)
          obtain ⟨hz1, rfl⟩ := hm1
          have hz1' : z1 = padR (m1 (o + 1)) n (i : Int) := hz1
          clear hz1
          subst hz1'
          refine z_aload_n dX8_compareWith_36 rfl ?_
          refine z_iload_n dX8_compareWith_37 rfl ?_
          refine z_V1i dX8_compareWith_38 ok_X8_at lk_X8_38 (by first | rfl | assumption) rfl rfl (Nat.le_of_ble_eq_true rfl) (by decide) (cm_X8_at hM' hs2 hn2) (fun z2 m1 hm1 => ?_)
          obtain ⟨hz2, rfl⟩ := hm1
          have hz2' : z2 = padR (m1 (p + 1)) n2 (i : Int) := hz2
          clear hz2
          subst hz2'
          refine z_S2i dX8_compareWith_41 ok_J6_compare_7cf53 lk_X8_55 (Nat.le_of_ble_eq_true rfl) (by decide) (cm_J6_compare) (fun z3 m1 hm1 => ?_)
          obtain ⟨rfl, rfl⟩ := hm1
          refine z_iret dX8_compareWith_44 rfl ?_
          refine ⟨rfl, _, rfl, ?_, rfl⟩
          by_cases c1 : padR (m1 (o + 1)) n (i : Int) < padR (m1 (p + 1)) n2 (i : Int)
          · have := nv_less (show i < lg by omega) (dig_pad hd) (dig_pad hd2) hsame c1
            rw [if_pos c1, if_pos (by omega)]
          · have := nv_less (show i < lg by omega) (dig_pad hd2) (dig_pad hd) (fun j h1 h2 => (hsame j h1 h2).symm) (show padR (m1 (p + 1)) n2 (i : Int) < padR (m1 (o + 1)) n (i : Int) by omega)
            rw [if_neg c1, if_neg (by omega), if_neg (by omega), if_neg (by omega)]
  refine z_aload_n dX8_compareWith_0 rfl ?_
  refine z_gI 1 dX8_compareWith_1 fl_X8_13 (by first | rfl | assumption) rfl rfl ?_
  rw [hs]
  refine z_aload_n dX8_compareWith_4 rfl ?_
  refine z_gI 1 dX8_compareWith_5 fl_X8_13 (by first | rfl | assumption) rfl rfl ?_
  rw [hs2]
  refine z_max dX8_compareWith_8 lm_X8_32 (by decide) (Nat.le_of_ble_eq_true rfl) ?_
  rw [hlg]
  refine z_iconst dX8_compareWith_11 (by decide) ?_
  refine z_isub dX8_compareWith_12 (by omega) ?_
  refine z_istore_n dX8_compareWith_13 (by decide) rfl ?_
  dsimp only [List.set]
  exact loop lg (Nat.le_refl lg) (fun j h1 h2 => by omega)
theorem cm_X8_copy {p w : Nat} (hN : isN G o) (hM : isN G p) (hw : natAt mem p w) (ha : p ≠ o ∧ p ≠ o + 1 ∧ p + 1 ≠ o) : CM X (0, 0) 1 mX8_copy G [vr o, vr p] mem (pV G fun m => natAt m o w ∧ onN o mem m) := by
  obtain ⟨hg, hg1⟩ := hN
  obtain ⟨hgp, hgp1⟩ := hM
  obtain ⟨n2, hs2, hn2, hd2, hvv2, htop2⟩ := hw
  obtain ⟨ha1, ha2, ha3⟩ := ha
  refine CM.of (by decide +kernel) 0 (Nat.le_of_ble_eq_true rfl) ?_
  show ZZ X (0, 0) 1 mX8_copy G 0 [vr o, vr p] [] mem _
  refine z_aload_n dX8_copy_0 rfl ?_
  refine z_getR (ty := .int) dX8_copy_1 fl_X8_9 (by first | rfl | assumption) rfl rfl ?_
  refine z_iconst dX8_copy_4 (by decide) ?_
  refine z_aload_n dX8_copy_5 rfl ?_
  refine z_getR (ty := .int) dX8_copy_6 fl_X8_9 (by first | rfl | assumption) rfl rfl ?_
  refine z_iconst dX8_copy_9 (by decide) ?_
  refine z_aload_n dX8_copy_10 rfl ?_
  refine z_gI 1 dX8_copy_11 fl_X8_13 (by first | rfl | assumption) rfl rfl ?_
  rw [hs2]
  refine z_copy dX8_copy_14 lc_X8_26 (by decide) (Nat.le_of_ble_eq_true rfl) (by first | rfl | assumption) (by first | rfl | assumption) (by omega) (by omega) (by omega) ?_
  refine z_aload_n dX8_copy_17 rfl ?_
  refine z_aload_n dX8_copy_18 rfl ?_
  refine z_gI 1 dX8_copy_19 fl_X8_13 (by first | rfl | assumption) rfl rfl ?_
  rw [mrow_ne _ ha2, hs2]
  refine z_pI 1 dX8_copy_22 fm_X8_13 (by first | rfl | assumption) rfl rfl ?_
  refine z_vret dX8_copy_25 rfl ?_
  refine ⟨rfl, rfl, ⟨n2, mset_eq _ _ _ _, hn2, ?_, ?_, ?_⟩, fun a h1 h2 => by rw [mset_ne _ h1, mrow_ne _ h2]⟩
  · rw [mset_ne _ (by omega), mrow_at]
    intro i hi
    dsimp only
    rw [if_pos (by omega)]
    exact hd2 i hi
  · rw [mset_ne _ (by omega), mrow_at, ← hvv2]
    exact nv_congr (fun i hi => if_pos (by omega))
  · rw [mset_ne _ (by omega), mrow_at]
    rcases htop2 with q | q
    · exact Or.inl q
    · by_cases e : n2 = 0
      · exact Or.inl e
      · refine Or.inr ?_
        rw [if_pos (by omega)]
        exact q
theorem cm_X8_become {v : Int} (hN : isN G o) (h0 : 0 ≤ v) (hv : v < 9223372036854775808) : CM X (0, 0) 1 mX8_become G [vr o, vl v] mem (pV G fun m => natAt m o v.toNat ∧ onN o mem m) := by
  have hN' := hN
  obtain ⟨hg, hg1⟩ := hN
  refine CM.of (by decide +kernel) 3 (Nat.le_of_ble_eq_true rfl) ?_
  show ZZ X (0, 0) 1 mX8_become G 0 [vr o, vl v, vd, vd, vd, vd] [] mem _
  have loop : ∀ (k i : Nat) (r : Int) (m : Mem), k + i = 3 → 0 ≤ r → r < 9223372036854775808 → onN o mem m → m o 1 = (i : Int) → dig (m (o + 1)) i → nv (m (o + 1)) i + r * zB ^ i = v →
      ZZ X (0, 0) 1 mX8_become G 10 [vr o, vl v, vd, vl r, vd, vi (i : Int)] [] m (pV G fun m => natAt m o v.toNat ∧ onN o mem m) := by
    intro k
    induction k with
    | zero =>
      intro i r m hk hr0 hr hon hsz hdg hinv
      have hi : i = 3 := by omega
      subst hi
      have h1 := nv_nonneg hdg
      have h3 : zB ^ 3 = 1237940039285380274899124224 := by decide
      rw [h3] at hinv
      have hq : nv (m (o + 1)) 3 = ((v.toNat : Nat) : Int) := by omega
      refine z_iload dX8_become_10 rfl ?_
      refine z_iconst dX8_become_12 (by decide) ?_
      refine z_icmp_ge 37 dX8_become_13 (by decide) (fun h13 => ?_) (fun h13 => ?_)
      · refine z_aload_n dX8_become_37 rfl ?_
        refine z_V0v dX8_become_38 ok_X8_trim lk_X8_23 (by first | rfl | assumption) rfl rfl (Nat.le_of_ble_eq_true rfl) (by decide) (cm_X8_trim hN' hsz (by omega)) (fun m2 hm2 => ?_)
        refine z_vret dX8_become_41 rfl ?_
        obtain ⟨q1, q2⟩ := trim_nat (by omega) hdg hq hm2
        exact ⟨rfl, rfl, q1, hon.tr q2⟩
      · omega
    | succ k ih =>
      intro i r m hk hr0 hr hon hsz hdg hinv
      refine z_iload dX8_become_10 rfl ?_
      refine z_iconst dX8_become_12 (by decide) ?_
      refine z_icmp_ge 37 dX8_become_13 (by decide) (fun h13 => ?_) (fun h13 => ?_)
      · omega
      · refine z_aload_n dX8_become_16 rfl ?_
        refine z_lload_n dX8_become_17 rfl ?_
        refine z_ldc2 (z := 1073741823) dX8_become_18 kc_X8_17 (by decide) ?_
        refine z_land dX8_become_21 ?_
        rw [land30]
        refine z_l2i dX8_become_22 (by omega) ?_
        refine z_V1v dX8_become_23 ok_X8_append lk_X8_19 (by first | rfl | assumption) rfl rfl (Nat.le_of_ble_eq_true rfl) (by decide) (cm_X8_append hN' hsz (by omega)) (fun m1 hm1 => ?_)
        rw [if_pos (by omega)] at hm1
        subst hm1
        refine z_lload_n dX8_become_26 rfl ?_
        refine z_bipush dX8_become_27 (by decide) ?_
        refine z_lushr dX8_become_29 ?_
        rw [lushr30 (by omega) (by omega)]
        refine z_lstore_n dX8_become_30 (by decide) rfl ?_
        dsimp only [List.set]
        refine z_iinc dX8_become_31 rfl (by omega) (by decide) rfl ?_
        dsimp only [List.set]
        refine z_goto 10 dX8_become_34 (by decide) ?_
        have e2 : mset (mset m (o + 1) (i : Int) (r % 1073741824)) o 1 ((i : Int) + 1) (o + 1) = mset m (o + 1) (i : Int) (r % 1073741824) (o + 1) := mset_ne _ (by omega) _ _
        refine ih (i + 1) _ _ (by omega) (by omega) (by omega) ((hon.tr (onN_set (Or.inr rfl))).tr (onN_set (Or.inl rfl))) (mset_eq _ _ _ _) (by rw [e2]; exact dig_msetS hdg (by omega) (by omega)) ?_
        rw [e2, nv_msetS, Int.pow_succ]
        have hdm := Int.mul_ediv_add_emod r 1073741824
        generalize r / 1073741824 = qq at hdm ⊢
        generalize r % 1073741824 = rr at hdm ⊢
        generalize zB ^ i = pp at hinv ⊢
        have hB : zB = 1073741824 := rfl
        rw [hB]
        grind
  refine z_aload_n dX8_become_0 rfl ?_
  refine z_iconst dX8_become_1 (by decide) ?_
  refine z_pI 1 dX8_become_2 fm_X8_13 (by first | rfl | assumption) rfl rfl ?_
  refine z_lload_n dX8_become_5 rfl ?_
  refine z_lstore_n dX8_become_6 (by decide) rfl ?_
  dsimp only [List.set]
  refine z_iconst dX8_become_7 (by decide) ?_
  refine z_istore dX8_become_8 (by decide) rfl ?_
  dsimp only [List.set]
  exact loop 3 0 v _ (by omega) h0 hv (onN_set (Or.inl rfl)) (mset_eq _ _ _ _) (fun i hi => by omega) (by simp [nv])
-- the digest's step
def mx (h v : Int) : Int := w64 (w64 (31 * h) + v)
def mxF (f : Int → Int) : Nat → Int → Int
  | 0, h => h
  | n + 1, h => mx (mxF f n h) (f (n : Int))
theorem cm_X8_mix {n : Nat} {h : Int} (hN : isN G o) (hs : mem o 1 = (n : Int)) (hn : n ≤ 64) : CM X (0, 0) 0 mX8_mix G [vr o, vl h] mem (pL G fun z m => z = mxF (mem (o + 1)) n h ∧ m = mem) := by
  obtain ⟨hg, hg1⟩ := hN
  refine CM.of (by decide +kernel) 3 (Nat.le_of_ble_eq_true rfl) ?_
  show ZZ X (0, 0) 0 mX8_mix G 0 [vr o, vl h, vd, vd, vd, vd] [] mem _
  have loop : ∀ (k i : Nat), k + i = n →
      ZZ X (0, 0) 0 mX8_mix G 5 [vr o, vl h, vd, vl (mxF (mem (o + 1)) i h), vd, vi (i : Int)] [] mem (pL G fun z m => z = mxF (mem (o + 1)) n h ∧ m = mem) := by
    intro k
    induction k with
    | zero =>
      intro i hk
      have hi : i = n := by omega
      subst hi
      refine z_iload dX8_mix_5 rfl ?_
      refine z_aload_n dX8_mix_7 rfl ?_
      refine z_gI 1 dX8_mix_8 fl_X8_13 (by first | rfl | assumption) rfl rfl ?_
      rw [hs]
      refine z_icmp_ge 35 dX8_mix_11 (by decide) (fun h11 => ?_) (fun h11 => ?_)
      · refine z_lload_n dX8_mix_35 rfl ?_
        refine z_lret dX8_mix_36 rfl ?_
        exact ⟨rfl, _, rfl, rfl, rfl⟩
      · omega
    | succ k ih =>
      intro i hk
      refine z_iload dX8_mix_5 rfl ?_
      refine z_aload_n dX8_mix_7 rfl ?_
      refine z_gI 1 dX8_mix_8 fl_X8_13 (by first | rfl | assumption) rfl rfl ?_
      rw [hs]
      refine z_icmp_ge 35 dX8_mix_11 (by decide) (fun h11 => ?_) (fun h11 => ?_)
      · omega
      · refine z_ldc2 (z := 31) dX8_mix_14 kc_X8_58 (by decide) ?_
        refine z_lload_n dX8_mix_17 rfl ?_
        refine z_lmulw dX8_mix_18 ?_
        refine z_aload_n dX8_mix_19 rfl ?_
        refine z_getR (ty := .int) dX8_mix_20 fl_X8_9 (by first | rfl | assumption) rfl rfl ?_
        refine z_iload dX8_mix_23 rfl ?_
        refine z_iald dX8_mix_25 (by first | rfl | assumption) (by omega) (by omega) ?_
        refine z_i2l dX8_mix_26 ?_
        refine z_laddw dX8_mix_27 ?_
        refine z_lstore_n dX8_mix_28 (by decide) rfl ?_
        dsimp only [List.set]
        refine z_iinc dX8_mix_29 rfl (by omega) (by decide) rfl ?_
        dsimp only [List.set]
        refine z_goto 5 dX8_mix_32 (by decide) ?_
        exact ih (i + 1) (by omega)
  refine z_lload_n dX8_mix_0 rfl ?_
  refine z_lstore_n dX8_mix_1 (by decide) rfl ?_
  dsimp only [List.set]
  refine z_iconst dX8_mix_2 (by decide) ?_
  refine z_istore dX8_mix_3 (by decide) rfl ?_
  dsimp only [List.set]
  exact loop n 0 (by omega)
end NatD
