section NatB
variable {X : Nat × (Int → Int)} {G : List GC} {o : Nat} {mem : Mem}
/-- a row that may end in noughts, behind trim -/
theorem trim_nat {m : Mem} {n v : Nat} (hn : n ≤ 64) (hd : dig (mem (o + 1)) n) (hv : nv (mem (o + 1)) n = (v : Int)) (h : ∃ k : Nat, k ≤ n ∧ (∀ i : Nat, k ≤ i → i < n → mem (o + 1) (i : Int) = 0) ∧ (k = 0 ∨ mem (o + 1) ((k : Int) - 1) ≠ 0) ∧ m = mset mem o 1 (k : Int)) : natAt m o v ∧ onN o mem m := by
  obtain ⟨k, h1, h2, h3, rfl⟩ := h
  refine ⟨⟨k, mset_eq _ _ _ _, by omega, ?_, ?_, ?_⟩, onN_set (Or.inl rfl)⟩
  · rw [mset_ne _ (by omega)]
    exact fun i hi => hd i (by omega)
  · rw [mset_ne _ (by omega), ← nv_pad h1 h2, hv]
  · rw [mset_ne _ (by omega)]
    exact h3
theorem cm_X8_multiply {v : Nat} {f : Int} (hN : isN G o) (hv : natAt mem o v) (hf0 : 0 ≤ f) (hf : f < 1073741824) (hb : (v : Int) * f < zB ^ 64) : CM X (0, 0) 1 mX8_multiply G [vr o, vi f] mem (pV G fun m => natAt m o (v * f.toNat) ∧ onN o mem m) := by
  have hN' := hN
  obtain ⟨hg, hg1⟩ := hN
  obtain ⟨n, hs, hn, hd, hvv, -⟩ := hv
  have hvn : ((v * f.toNat : Nat) : Int) = (v : Int) * f := by rw [Int.natCast_mul, Int.toNat_of_nonneg hf0]
  refine CM.of (by decide +kernel) 3 (Nat.le_of_ble_eq_true rfl) ?_
  show ZZ X (0, 0) 1 mX8_multiply G 0 [vr o, vi f, vd, vd, vd] [] mem _
  have loop : ∀ (k i : Nat) (c : Int) (m : Mem), k + i = n → 0 ≤ c → c ≤ f → onN o mem m → m o 1 = (n : Int) → dig (m (o + 1)) i → (∀ j : Nat, i ≤ j → m (o + 1) (j : Int) = mem (o + 1) (j : Int)) → nv (m (o + 1)) i + c * zB ^ i = nv (mem (o + 1)) i * f →
      ZZ X (0, 0) 1 mX8_multiply G 5 [vr o, vi f, vl c, vd, vi (i : Int)] [] m (pV G fun m => natAt m o (v * f.toNat) ∧ onN o mem m) := by
    intro k
    induction k with
    | zero =>
      intro i c m hk hc0 hc hon hsz hdg hsame hinv
      have hi : i = n := by omega
      subst hi
      rw [hvv] at hinv
      refine z_iload dX8_multiply_5 rfl ?_
      refine z_aload_n dX8_multiply_7 rfl ?_
      refine z_gI 1 dX8_multiply_8 fl_X8_13 (by first | rfl | assumption) rfl rfl ?_
      rw [hsz]
      refine z_icmp_ge 52 dX8_multiply_11 (by decide) (fun h11 => ?_) (fun h11 => ?_)
      · refine z_aload_n dX8_multiply_52 rfl ?_
        refine z_lload_n dX8_multiply_53 rfl ?_
        refine z_l2i dX8_multiply_54 (by omega) ?_
        refine z_V1v dX8_multiply_55 ok_X8_append lk_X8_19 (by first | rfl | assumption) rfl rfl (Nat.le_of_ble_eq_true rfl) (by decide) (cm_X8_append hN' hsz hn) (fun m1 hm1 => ?_)
        by_cases hlt : i < 64
        · rw [if_pos hlt] at hm1
          have e1 : m1 o 1 = ((i + 1 : Nat) : Int) := by rw [hm1, mset_eq]; omega
          have e2 : m1 (o + 1) = mset m (o + 1) (i : Int) c (o + 1) := by rw [hm1, mset_ne _ (by omega)]
          have e3 : dig (m1 (o + 1)) (i + 1) := by rw [e2]; exact dig_msetS hdg hc0 (by omega)
          have e4 : nv (m1 (o + 1)) (i + 1) = ((v * f.toNat : Nat) : Int) := by rw [hvn, ← hinv, e2, nv_msetS]
          refine z_aload_n dX8_multiply_58 rfl ?_
          refine z_V0v dX8_multiply_59 ok_X8_trim lk_X8_23 (by first | rfl | assumption) rfl rfl (by decide) (by decide) (cm_X8_trim hN' e1 (by omega)) (fun m2 hm2 => ?_)
          refine z_vret dX8_multiply_62 rfl ?_
          obtain ⟨q1, q2⟩ := trim_nat (by omega) e3 e4 hm2
          exact ⟨rfl, rfl, q1, (hon.tr (by rw [hm1]; exact (onN_set (Or.inr rfl)).tr (onN_set (Or.inl rfl)))).tr q2⟩
        · rw [if_neg hlt] at hm1
          have hi64 : i = 64 := by omega
          subst hm1
          have hc00 : c = 0 := by
            have h1 := nv_nonneg hdg
            by_cases q : c = 0
            · exact q
            · have h2 : 1 * zB ^ i ≤ c * zB ^ i := Int.mul_le_mul_of_nonneg_right (by omega) (Int.le_of_lt (zB_pos i))
              rw [hi64] at h1 h2 hinv
              omega
          refine z_aload_n dX8_multiply_58 rfl ?_
          refine z_V0v dX8_multiply_59 ok_X8_trim lk_X8_23 (by first | rfl | assumption) rfl rfl (by decide) (by decide) (cm_X8_trim hN' hsz hn) (fun m2 hm2 => ?_)
          refine z_vret dX8_multiply_62 rfl ?_
          obtain ⟨q1, q2⟩ := trim_nat hn hdg (by rw [hvn, ← hinv, hc00]; omega) hm2
          exact ⟨rfl, rfl, q1, hon.tr q2⟩
      · omega
    | succ k ih =>
      intro i c m hk hc0 hc hon hsz hdg hsame hinv
      have hl := hd i (by omega)
      have hpr0 : 0 ≤ mem (o + 1) (i : Int) * f := Int.mul_nonneg hl.1 hf0
      have hpr1 : mem (o + 1) (i : Int) * f ≤ 1073741823 * f := Int.mul_le_mul_of_nonneg_right (by omega) hf0
      refine z_iload dX8_multiply_5 rfl ?_
      refine z_aload_n dX8_multiply_7 rfl ?_
      refine z_gI 1 dX8_multiply_8 fl_X8_13 (by first | rfl | assumption) rfl rfl ?_
      rw [hsz]
      refine z_icmp_ge 52 dX8_multiply_11 (by decide) (fun h11 => ?_) (fun h11 => ?_)
      · omega
      · refine z_lload_n dX8_multiply_14 rfl ?_
        refine z_aload_n dX8_multiply_15 rfl ?_
        refine z_getR (ty := .int) dX8_multiply_16 fl_X8_9 (by first | rfl | assumption) rfl rfl ?_
        refine z_iload dX8_multiply_19 rfl ?_
        refine z_iald dX8_multiply_21 (by first | rfl | assumption) (by omega) (by omega) ?_
        rw [hsame i (Nat.le_refl i)]
        refine z_i2l dX8_multiply_22 ?_
        refine z_iload_n dX8_multiply_23 rfl ?_
        refine z_i2l dX8_multiply_24 ?_
        refine z_lmul dX8_multiply_25 (by omega) ?_
        refine z_ladd dX8_multiply_26 (by omega) ?_
        refine z_lstore_n dX8_multiply_27 (by decide) rfl ?_
        dsimp only [List.set]
        refine z_aload_n dX8_multiply_28 rfl ?_
        refine z_getR (ty := .int) dX8_multiply_29 fl_X8_9 (by first | rfl | assumption) rfl rfl ?_
        refine z_iload dX8_multiply_32 rfl ?_
        refine z_lload_n dX8_multiply_34 rfl ?_
        refine z_ldc2 (z := 1073741823) dX8_multiply_35 kc_X8_17 (by decide) ?_
        refine z_land dX8_multiply_38 ?_
        rw [land30]
        refine z_l2i dX8_multiply_39 (by omega) ?_
        refine z_iast dX8_multiply_40 (by first | rfl | assumption) (by omega) (by omega) ?_
        refine z_lload_n dX8_multiply_41 rfl ?_
        refine z_bipush dX8_multiply_42 (by decide) ?_
        refine z_lushr dX8_multiply_44 ?_
        rw [lushr30 (by omega) (by omega)]
        refine z_lstore_n dX8_multiply_45 (by decide) rfl ?_
        dsimp only [List.set]
        refine z_iinc dX8_multiply_46 rfl (by omega) (by decide) rfl ?_
        dsimp only [List.set]
        refine z_goto 5 dX8_multiply_49 (by decide) ?_
        refine ih (i + 1) ((c + mem (o + 1) (i : Int) * f) / 1073741824) _ (by omega) (by omega) (by omega) (hon.tr (onN_set (Or.inr rfl))) (onN.sz hsz) (dig_msetS hdg (by omega) (by omega)) (fun j hj => ?_) ?_
        · rw [mset_nej _ _ (by omega)]
          exact hsame j (by omega)
        · show _ = (nv _ i + mem (o + 1) (i : Int) * zB ^ i) * f
          rw [nv_msetS]
          have hdm := Int.mul_ediv_add_emod (c + mem (o + 1) (i : Int) * f) 1073741824
          rw [Int.pow_succ]
          generalize (c + mem (o + 1) (i : Int) * f) / 1073741824 = qq at hdm ⊢
          generalize (c + mem (o + 1) (i : Int) * f) % 1073741824 = rr at hdm ⊢
          generalize zB ^ i = pp at hinv ⊢
          grind
  refine z_lconst (z := 0) dX8_multiply_0 rfl (by decide) ?_
  refine z_lstore_n dX8_multiply_1 (by decide) rfl ?_
  dsimp only [List.set]
  refine z_iconst dX8_multiply_2 (by decide) ?_
  refine z_istore dX8_multiply_3 (by decide) rfl ?_
  dsimp only [List.set]
  exact loop n 0 0 mem (by omega) (by omega) hf0 (onN.rf _ _) hs (fun i hi => by omega) (fun j _ => rfl) (by simp [nv])
end NatB
