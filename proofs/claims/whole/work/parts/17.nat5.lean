section NatE
variable {X : Nat × (Int → Int)} {G : List GC} {o : Nat} {mem : Mem}
theorem w32_ex (z : Int) : ∃ k : Int, w32 z = z + k * 4294967296 := by
  unfold w32
  rw [Int.bmod_def]
  by_cases c : z % 4294967296 < 2147483648
  · exact ⟨-(z / 4294967296), by split <;> omega⟩
  · exact ⟨-(z / 4294967296) - 1, by split <;> omega⟩
theorem inv_step {a x t e e' q : Int} (he : e * e = e' * q) {M c : Int} (hM : M = e' * c) (hx : a * x = 1 + t * e) {y k1 k2 k3 : Int} (hy : y = x * (2 - (a * x + k1 * M) + k2 * M) + k3 * M) : ∃ t' : Int, a * y = 1 + t' * e' := by
  refine ⟨-(t * t * q) + c * ((1 + t * e) * (k2 - k1) + a * k3), ?_⟩
  subst hy
  have h1 : a * (x * (2 - (a * x + k1 * M) + k2 * M) + k3 * M) = (a * x) * (2 - (a * x) - k1 * M + k2 * M) + a * k3 * M := by grind
  rw [h1, hx, hM]
  grind
theorem cm_X8_inverseOf {a : Int} (ha : a % 2 = 1) (ha0 : 0 ≤ a) (ha1 : a < 1073741824) : CM X (0, 0) 0 mX8_inverseOf G [vi a] mem (pI G fun z m => (∃ t : Int, a * z = 1 + t * 4294967296) ∧ m = mem) := by
  have base : ∃ t : Int, a * a = 1 + t * 8 := by
    obtain ⟨s, hs⟩ : ∃ s, a = 2 * s + 1 := ⟨a / 2, by omega⟩
    have h2 : s * (s + 1) % 2 = 0 := by
      rcases Int.emod_two_eq s with h | h
      · rw [Int.mul_emod, h]; simp
      · rw [Int.mul_emod, Int.add_emod, h]; simp
    obtain ⟨u, hu⟩ : ∃ u, s * (s + 1) = 2 * u := ⟨s * (s + 1) / 2, by omega⟩
    exact ⟨u, by subst hs; grind⟩
  refine CM.of (by decide +kernel) 2 (Nat.le_of_ble_eq_true rfl) ?_
  show ZZ X (0, 0) 0 mX8_inverseOf G 0 [vi a, vd, vd] [] mem _
  have step : ∀ {x : Int} (i e e' q c : Int), e * e = e' * q → 4294967296 = e' * c → 0 ≤ i → i < 4 → (∃ t : Int, a * x = 1 + t * e) → (∀ y : Int, (∃ t : Int, a * y = 1 + t * e') → ZZ X (0, 0) 0 mX8_inverseOf G 4 [vi a, vi y, vi (i + 1)] [] mem (pI G fun z m => (∃ t : Int, a * z = 1 + t * 4294967296) ∧ m = mem)) → ZZ X (0, 0) 0 mX8_inverseOf G 4 [vi a, vi x, vi i] [] mem (pI G fun z m => (∃ t : Int, a * z = 1 + t * 4294967296) ∧ m = mem) := by
    intro x i e e' q c he hc hi0 hi4 hx k
    obtain ⟨t, ht⟩ := hx
    refine z_iload_n dX8_inverseOf_4 rfl ?_
    refine z_iconst dX8_inverseOf_5 (by decide) ?_
    refine z_icmp_ge 23 dX8_inverseOf_6 (by decide) (fun h6 => ?_) (fun h6 => ?_)
    · omega
    · refine z_iload_n dX8_inverseOf_9 rfl ?_
      refine z_iconst dX8_inverseOf_10 (by decide) ?_
      refine z_iload_n dX8_inverseOf_11 rfl ?_
      refine z_iload_n dX8_inverseOf_12 rfl ?_
      refine z_imulw dX8_inverseOf_13 ?_
      refine z_isubw dX8_inverseOf_14 ?_
      refine z_imulw dX8_inverseOf_15 ?_
      refine z_istore_n dX8_inverseOf_16 (by decide) rfl ?_
      dsimp only [List.set]
      refine z_iinc dX8_inverseOf_17 rfl (by omega) (by decide) rfl ?_
      dsimp only [List.set]
      refine z_goto 4 dX8_inverseOf_20 (by decide) ?_
      refine k _ ?_
      obtain ⟨k1, h1⟩ := w32_ex (a * x)
      obtain ⟨k2, h2⟩ := w32_ex (2 - w32 (a * x))
      obtain ⟨k3, h3⟩ := w32_ex (x * w32 (2 - w32 (a * x)))
      rw [h3, h2, h1]
      exact inv_step he hc ht rfl
  refine z_iload_n dX8_inverseOf_0 rfl ?_
  refine z_istore_n dX8_inverseOf_1 (by decide) rfl ?_
  dsimp only [List.set]
  refine z_iconst dX8_inverseOf_2 (by decide) ?_
  refine z_istore_n dX8_inverseOf_3 (by decide) rfl ?_
  dsimp only [List.set]
  refine step 0 8 64 1 67108864 (by decide) (by decide) (by decide) (by decide) base (fun y hy => ?_)
  refine step _ 64 4096 1 1048576 (by decide) (by decide) (by decide) (by decide) hy (fun y hy => ?_)
  refine step _ 4096 16777216 1 256 (by decide) (by decide) (by decide) (by decide) hy (fun y hy => ?_)
  refine step _ 16777216 4294967296 65536 1 (by decide) (by decide) (by decide) (by decide) hy (fun y hy => ?_)
  refine z_iload_n dX8_inverseOf_4 rfl ?_
  refine z_iconst dX8_inverseOf_5 (by decide) ?_
  refine z_icmp_ge 23 dX8_inverseOf_6 (by decide) (fun h => ?_) (fun h => ?_)
  · refine z_iload_n dX8_inverseOf_23 rfl ?_
    refine z_iret dX8_inverseOf_24 rfl ?_
    exact ⟨rfl, _, rfl, hy, rfl⟩
  · omega
-- counting bits
def bc1 (x : Int) : Int := w32 (x - iandV (iushrV x 1) 1431655765)
def bc2 (x : Int) : Int := w32 (iandV x 858993459 + iandV (iushrV x 2) 858993459)
def bc3 (x : Int) : Int := iandV (w32 (x + iushrV x 4)) 252645135
def bc4 (x : Int) : Int := w32 (x + iushrV x 8)
def bc5 (x : Int) : Int := iandV (w32 (x + iushrV x 16)) 63
def bcV (x : Int) : Int := bc5 (bc4 (bc3 (bc2 (bc1 x))))
theorem cm_J6_bitCount {x : Int} : CM X (0, 0) 0 mJ6_bitCount_0f7a4 G [vi x] mem (pI G fun z m => z = bcV x ∧ m = mem) := by
  refine CM.of (by decide +kernel) 0 (Nat.le_of_ble_eq_true rfl) ?_
  show ZZ X (0, 0) 0 mJ6_bitCount_0f7a4 G 0 [vi x] [] mem _
  refine z_iload_n dJ6_bitCount_0f7a4_0 rfl ?_
  refine z_iload_n dJ6_bitCount_0f7a4_1 rfl ?_
  refine z_iconst dJ6_bitCount_0f7a4_2 (by decide) ?_
  refine z_iushr dJ6_bitCount_0f7a4_3 ?_
  refine z_ldcw (z := 1431655765) dJ6_bitCount_0f7a4_4 kc_J6_265 (by decide) ?_
  refine z_iand dJ6_bitCount_0f7a4_7 ?_
  refine z_isubw dJ6_bitCount_0f7a4_8 ?_
  refine z_istore_n dJ6_bitCount_0f7a4_9 (by decide) rfl ?_
  dsimp only [List.set]
  refine z_iload_n dJ6_bitCount_0f7a4_10 rfl ?_
  refine z_ldcw (z := 858993459) dJ6_bitCount_0f7a4_11 kc_J6_266 (by decide) ?_
  refine z_iand dJ6_bitCount_0f7a4_14 ?_
  refine z_iload_n dJ6_bitCount_0f7a4_15 rfl ?_
  refine z_iconst dJ6_bitCount_0f7a4_16 (by decide) ?_
  refine z_iushr dJ6_bitCount_0f7a4_17 ?_
  refine z_ldcw (z := 858993459) dJ6_bitCount_0f7a4_18 kc_J6_266 (by decide) ?_
  refine z_iand dJ6_bitCount_0f7a4_21 ?_
  refine z_iaddw dJ6_bitCount_0f7a4_22 ?_
  refine z_istore_n dJ6_bitCount_0f7a4_23 (by decide) rfl ?_
  dsimp only [List.set]
  refine z_iload_n dJ6_bitCount_0f7a4_24 rfl ?_
  refine z_iload_n dJ6_bitCount_0f7a4_25 rfl ?_
  refine z_iconst dJ6_bitCount_0f7a4_26 (by decide) ?_
  refine z_iushr dJ6_bitCount_0f7a4_27 ?_
  refine z_iaddw dJ6_bitCount_0f7a4_28 ?_
  refine z_ldcw (z := 252645135) dJ6_bitCount_0f7a4_29 kc_J6_267 (by decide) ?_
  refine z_iand dJ6_bitCount_0f7a4_32 ?_
  refine z_istore_n dJ6_bitCount_0f7a4_33 (by decide) rfl ?_
  dsimp only [List.set]
  refine z_iload_n dJ6_bitCount_0f7a4_34 rfl ?_
  refine z_iload_n dJ6_bitCount_0f7a4_35 rfl ?_
  refine z_bipush dJ6_bitCount_0f7a4_36 (by decide) ?_
  refine z_iushr dJ6_bitCount_0f7a4_38 ?_
  refine z_iaddw dJ6_bitCount_0f7a4_39 ?_
  refine z_istore_n dJ6_bitCount_0f7a4_40 (by decide) rfl ?_
  dsimp only [List.set]
  refine z_iload_n dJ6_bitCount_0f7a4_41 rfl ?_
  refine z_iload_n dJ6_bitCount_0f7a4_42 rfl ?_
  refine z_bipush dJ6_bitCount_0f7a4_43 (by decide) ?_
  refine z_iushr dJ6_bitCount_0f7a4_45 ?_
  refine z_iaddw dJ6_bitCount_0f7a4_46 ?_
  refine z_istore_n dJ6_bitCount_0f7a4_47 (by decide) rfl ?_
  dsimp only [List.set]
  refine z_iload_n dJ6_bitCount_0f7a4_48 rfl ?_
  refine z_bipush dJ6_bitCount_0f7a4_49 (by decide) ?_
  refine z_iand dJ6_bitCount_0f7a4_51 ?_
  refine z_iret dJ6_bitCount_0f7a4_52 rfl ?_
  exact ⟨rfl, _, rfl, rfl, rfl⟩
theorem bc_pow : ∀ k : Fin 31, bcV ((2 ^ (k : Nat) : Nat) - 1 : Int) = ((k : Nat) : Int) := by decide +kernel
theorem low_bit {k t : Nat} (h : 2 ^ k * (2 * t + 1) < 2 ^ 30) : iandV ((2 ^ k * (2 * t + 1) : Nat) : Int) (w32 (-((2 ^ k * (2 * t + 1) : Nat) : Int))) = ((2 ^ k : Nat) : Int) := by
  have hp : 0 < 2 ^ k := Nat.two_pow_pos k
  have hk : 2 ^ k ≤ 2 ^ k * (2 * t + 1) := Nat.le_mul_of_pos_right _ (by omega)
  unfold iandV
  refine ti_of32 _ (n := 2 ^ k) ?_ (by omega)
  rw [Int32.toBitVec_and, BitVec.toNat_and, ofInt_w32, tn32, tn32]
  generalize hx : 2 ^ k * (2 * t + 1) = x at h hk
  have hx0 : 0 < x := by omega
  rw [show (((x : Nat) : Int) % 4294967296).toNat = x by omega, show ((-((x : Nat) : Int)) % 4294967296).toNat = 2 ^ 32 - ((x - 1) + 1) by omega]
  apply Nat.eq_of_testBit_eq
  intro i
  rw [Nat.testBit_and, Nat.testBit_two_pow_sub_succ (by omega), Nat.testBit_two_pow]
  have e1 : x = 2 ^ k * (2 * t + 1) + 0 := by omega
  have e2 : x - 1 = 2 ^ k * (2 * t) + (2 ^ k - 1) := by
    rw [← hx, Nat.mul_add]
    omega
  rw [e2, e1, Nat.testBit_two_pow_mul_add _ (by omega), Nat.testBit_two_pow_mul_add _ (by omega)]
  by_cases q : i < k
  · simp [q]
    omega
  · rw [if_neg q, if_neg q]
    by_cases q2 : i = k
    · subst q2
      simp
      have : i < 30 := by
        have := (Nat.pow_lt_pow_iff_right (a := 2) (n := i) (m := 30) (by decide)).mp (by omega)
        exact this
      omega
    · have q3 : ¬ k = i := fun w => q2 w.symm
      simp only [q3, decide_false]
      obtain ⟨j, hj⟩ : ∃ j, i - k = j + 1 := ⟨i - k - 1, by omega⟩
      rw [hj, Nat.testBit_succ, Nat.testBit_succ, show (2 * t + 1) / 2 = t by omega, show 2 * t / 2 = t by omega]
      cases t.testBit j <;> simp
theorem odd_part : ∀ (x : Nat), 0 < x → ∃ k t : Nat, x = 2 ^ k * (2 * t + 1) := by
  intro x
  induction x using Nat.strongRecOn with
  | ind x ih =>
    intro hx
    by_cases q : x % 2 = 1
    · exact ⟨0, x / 2, by omega⟩
    · obtain ⟨k, t, h⟩ := ih (x / 2) (by omega) (by omega)
      refine ⟨k + 1, t, ?_⟩
      rw [Nat.pow_succ, Nat.mul_comm (2 ^ k) 2, Nat.mul_assoc, ← h]
      omega
theorem nv_high {f : Int → Int} {k : Nat} : ∀ {n : Nat}, k ≤ n → dig f n → ∃ h : Nat, True ∧ nv f n - nv f k = (h : Int) * zB ^ k
  | 0, hk, _ => ⟨0, trivial, by rw [show k = 0 by omega]; simp⟩
  | n + 1, hk, hd => by
    by_cases e : k = n + 1
    · exact ⟨0, trivial, by rw [e]; simp⟩
    · obtain ⟨h, -, ih⟩ := nv_high (k := k) (n := n) (by omega) (fun i hi => hd i (by omega))
      obtain ⟨j, hj⟩ : ∃ j, n = k + j := ⟨n - k, by omega⟩
      refine ⟨h + (f (n : Int)).toNat * 1073741824 ^ j, trivial, ?_⟩
      show nv f n + f (n : Int) * zB ^ n - nv f k = _
      have h0 := (hd n (by omega)).1
      have e3 : (((f (n : Int)).toNat : Nat) : Int) = f (n : Int) := by omega
      rw [Int.natCast_add, Int.natCast_mul, e3, Int.natCast_pow, Int.add_mul, ← ih, Int.mul_assoc]
      have e4 : zB ^ n = ((1073741824 : Nat) : Int) ^ j * zB ^ k := by
        rw [hj, Int.pow_add, Int.mul_comm, show ((1073741824 : Nat) : Int) = zB from rfl]
      rw [e4]
      omega
/-- twos: how often 2 measures a number that is not nought -/
theorem cm_X8_twos {v : Nat} (hN : isN G o) (hv : natAt mem o v) (hv0 : 0 < v) : CM X (0, 0) 1 mX8_twos G [vr o] mem (pI G fun z m => (∃ k t : Nat, z = (k : Int) ∧ v = 2 ^ k * (2 * t + 1)) ∧ m = mem) := by
  obtain ⟨hg, hg1⟩ := hN
  obtain ⟨n, hs, hn, hd, hvv, -⟩ := hv
  refine CM.of (by decide +kernel) 1 (Nat.le_of_ble_eq_true rfl) ?_
  show ZZ X (0, 0) 1 mX8_twos G 0 [vr o, vd] [] mem _
  have loop : ∀ (k i : Nat), k + i = n → (∀ j : Nat, j < i → mem (o + 1) (j : Int) = 0) →
      ZZ X (0, 0) 1 mX8_twos G 2 [vr o, vi (i : Int)] [] mem (pI G fun z m => (∃ k t : Nat, z = (k : Int) ∧ v = 2 ^ k * (2 * t + 1)) ∧ m = mem) := by
    intro k
    induction k with
    | zero =>
      intro i hk hz
      have hi : i = n := by omega
      subst hi
      have : nv (mem (o + 1)) i = 0 := by
        rw [nv_pad (k := 0) (Nat.zero_le i) (fun j _ h2 => hz j h2)]; rfl
      omega
    | succ k ih =>
      intro i hk hz
      have hl := hd i (by omega)
      refine z_iload_n dX8_twos_2 rfl ?_
      refine z_aload_n dX8_twos_3 rfl ?_
      refine z_gI 1 dX8_twos_4 fl_X8_13 (by first | rfl | assumption) rfl rfl ?_
      rw [hs]
      refine z_icmp_ge 50 dX8_twos_7 (by decide) (fun h7 => ?_) (fun h7 => ?_)
      · omega
      · refine z_aload_n dX8_twos_10 rfl ?_
        refine z_getR (ty := .int) dX8_twos_11 fl_X8_9 (by first | rfl | assumption) rfl rfl ?_
        refine z_iload_n dX8_twos_14 rfl ?_
        refine z_iald dX8_twos_15 (by first | rfl | assumption) (by omega) (by omega) ?_
        refine z_if_eq 44 dX8_twos_16 (by decide) (fun h16 => ?_) (fun h16 => ?_)
        · refine z_iinc dX8_twos_44 rfl (by omega) (by decide) rfl ?_
          dsimp only [List.set]
          refine z_goto 2 dX8_twos_47 (by decide) ?_
          exact ih (i + 1) (by omega) (fun j hj => by by_cases e : j = i; exact e ▸ h16; exact hz j (by omega))
        · obtain ⟨k0, t0, hkt⟩ := odd_part (mem (o + 1) (i : Int)).toNat (by omega)
          have hx : mem (o + 1) (i : Int) = ((2 ^ k0 * (2 * t0 + 1) : Nat) : Int) := by omega
          have hk30 : k0 < 30 := by
            have h1 : 2 ^ k0 ≤ 2 ^ k0 * (2 * t0 + 1) := Nat.le_mul_of_pos_right _ (by omega)
            exact (Nat.pow_lt_pow_iff_right (a := 2) (n := k0) (m := 30) (by decide)).mp (by omega)
          refine z_iload_n dX8_twos_19 rfl ?_
          refine z_bipush dX8_twos_20 (by decide) ?_
          refine z_imul dX8_twos_22 (by omega) ?_
          refine z_aload_n dX8_twos_23 rfl ?_
          refine z_getR (ty := .int) dX8_twos_24 fl_X8_9 (by first | rfl | assumption) rfl rfl ?_
          refine z_iload_n dX8_twos_27 rfl ?_
          refine z_iald dX8_twos_28 (by first | rfl | assumption) (by omega) (by omega) ?_
          refine z_aload_n dX8_twos_29 rfl ?_
          refine z_getR (ty := .int) dX8_twos_30 fl_X8_9 (by first | rfl | assumption) rfl rfl ?_
          refine z_iload_n dX8_twos_33 rfl ?_
          refine z_iald dX8_twos_34 (by first | rfl | assumption) (by omega) (by omega) ?_
          refine z_inegw dX8_twos_35 ?_
          refine z_iand dX8_twos_36 ?_
          have hlow : iandV (mem (o + 1) (i : Int)) (w32 (-mem (o + 1) (i : Int))) = ((2 ^ k0 : Nat) : Int) := by rw [hx]; exact low_bit (by omega)
          rw [hlow]
          have hpk0 : 0 < 2 ^ k0 := Nat.two_pow_pos k0
          have hpk : 2 ^ k0 < 2 ^ 30 := (Nat.pow_lt_pow_iff_right (by decide)).mpr hk30
          refine z_iconst dX8_twos_37 (by decide) ?_
          refine z_isub dX8_twos_38 (by omega) ?_
          refine z_S1i dX8_twos_39 ok_J6_bitCount_0f7a4 lk_X8_50 (Nat.le_of_ble_eq_true rfl) (by decide) (cm_J6_bitCount) (fun z1 m1 hm1 => ?_)
          obtain ⟨hz1, rfl⟩ := hm1
          rw [bc_pow ⟨k0, by omega⟩] at hz1
          dsimp only at hz1
          subst hz1
          refine z_iadd dX8_twos_42 (by omega) ?_
          refine z_iret dX8_twos_43 rfl ?_
          refine ⟨rfl, _, rfl, ⟨i * 30 + k0, ?_⟩, rfl⟩
          have hV : nv (m1 (o + 1)) n = m1 (o + 1) (i : Int) * zB ^ i + (nv (m1 (o + 1)) n - nv (m1 (o + 1)) (i + 1)) := by
            have e1 : nv (m1 (o + 1)) (i + 1) = nv (m1 (o + 1)) i + m1 (o + 1) (i : Int) * zB ^ i := rfl
            have e2 : nv (m1 (o + 1)) i = 0 := by rw [nv_pad (k := 0) (Nat.zero_le i) (fun j _ h2 => hz j h2)]; rfl
            omega
          obtain ⟨hi2, hhi⟩ := nv_high (show i + 1 ≤ n by omega) hd
          rw [hhi.2] at hV
          refine ⟨t0 + hi2 * 2 ^ (29 - k0), by omega, ?_⟩
          have hvN : (v : Int) = (((2 ^ k0 * (2 * t0 + 1)) * 1073741824 ^ i + hi2 * 1073741824 ^ (i + 1) : Nat) : Int) := by
            rw [← hvv, hV, hx]
            simp
          have hvN2 : v = (2 ^ k0 * (2 * t0 + 1)) * 1073741824 ^ i + hi2 * 1073741824 ^ (i + 1) := Int.ofNat.inj hvN
          have hp1 : (1073741824 : Nat) ^ i = 2 ^ (i * 30) := by rw [Nat.mul_comm, Nat.pow_mul]
          have hp2 : (1073741824 : Nat) ^ (i + 1) = 2 ^ (i * 30) * (2 ^ k0 * (2 * 2 ^ (29 - k0))) := by
            rw [Nat.pow_succ, hp1, ← Nat.pow_succ', ← Nat.pow_add, show k0 + (29 - k0).succ = 30 by omega]
          rw [hvN2, hp1, hp2, Nat.pow_add]
          generalize 2 ^ (i * 30) = A1
          generalize 2 ^ k0 = A2
          generalize 2 ^ (29 - k0) = A3
          grind
  refine z_iconst dX8_twos_0 (by decide) ?_
  refine z_istore_n dX8_twos_1 (by decide) rfl ?_
  dsimp only [List.set]
  exact loop n 0 (by omega) (fun j hj => by omega)
end NatE
