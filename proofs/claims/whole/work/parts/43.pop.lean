/-! ===== counting bits below 2 ^ 20 ===== -/
theorem and_div8 (a b k : Nat) : (a &&& b) / 2 ^ k = a / 2 ^ k &&& b / 2 ^ k := by
  rw [← Nat.shiftRight_eq_div_pow, ← Nat.shiftRight_eq_div_pow, ← Nat.shiftRight_eq_div_pow, Nat.shiftRight_and_distrib]
theorem or_div8 (a b k : Nat) : (a ||| b) / 2 ^ k = a / 2 ^ k ||| b / 2 ^ k := by
  rw [← Nat.shiftRight_eq_div_pow, ← Nat.shiftRight_eq_div_pow, ← Nat.shiftRight_eq_div_pow, Nat.shiftRight_or_distrib]
theorem and_split {b r c M : Nat} (hb : b < 256) (hc : c < 256) : (b + 256 * r) &&& (c + 256 * M) = (b &&& c) + 256 * (r &&& M) := by
  have h1 := and_div8 (b + 256 * r) (c + 256 * M) 8
  have h2 := Nat.and_mod_two_pow (a := b + 256 * r) (b := c + 256 * M) (n := 8)
  rw [show (b + 256 * r) / 2 ^ 8 = r by omega, show (c + 256 * M) / 2 ^ 8 = M by omega] at h1
  rw [show (b + 256 * r) % 2 ^ 8 = b by omega, show (c + 256 * M) % 2 ^ 8 = c by omega] at h2
  omega
theorem iand_nat {a b : Nat} (ha : a < 2147483648) (hb : b < 2147483648) : iandV (a : Int) (b : Int) = ((a &&& b : Nat) : Int) := by
  have h1 : (Int32.ofInt (a : Int) &&& Int32.ofInt (b : Int)).toBitVec.toNat = a &&& b := by
    rw [Int32.toBitVec_and, BitVec.toNat_and, tn32, tn32, show ((a : Int) % 4294967296).toNat = a by omega, show ((b : Int) % 4294967296).toNat = b by omega]
  unfold iandV
  have := Nat.and_lt_two_pow (n := 31) a hb
  exact ti_of32 _ h1 this
theorem iush_nat {n w : Nat} (hn : n < 2147483648) (hw : w < 31) : iushrV (n : Int) (w : Int) = ((n / 2 ^ w : Nat) : Int) := by
  unfold iushrV
  have hc : ∀ k : Fin 31, ((Int32.ofInt ((k.val : Nat) : Int)).toUInt32 &&& Int32.toUInt32 31) = UInt32.ofNat k.val := by decide +kernel
  have hd : ∀ k : Fin 31, (UInt32.ofNat k.val).toNat % 32 = k.val := by decide +kernel
  have h1 : ((Int32.ofInt (n : Int)).toUInt32 >>> ((Int32.ofInt (w : Int)).toUInt32 &&& Int32.toUInt32 31)).toInt32.toBitVec.toNat = n / 2 ^ w := by
    rw [hc ⟨w, hw⟩, UInt32.toBitVec_toInt32]
    show ((Int32.ofInt (n : Int)).toUInt32 >>> (UInt32.ofNat w)).toNat = _
    rw [UInt32.toNat_shiftRight, hd ⟨w, hw⟩]
    show (Int32.ofInt (n : Int)).toBitVec.toNat >>> w = _
    rw [tn32, Nat.shiftRight_eq_div_pow, show ((n : Int) % 4294967296).toNat = n by omega]
  have : n / 2 ^ w ≤ n := Nat.div_le_self _ _
  exact ti_of32 _ h1 (by omega)
def g1 (b : Nat) : Nat := b - (b / 2 &&& 85)
def g2 (b : Nat) : Nat := (b &&& 51) + (b / 4 &&& 51)
def g3 (b : Nat) : Nat := (b + b / 16) &&& 15
def pop8 (b : Nat) : Nat := g3 (g2 (g1 b))
def bcN (n : Nat) : Nat := pop8 (n % 256) + pop8 (n / 256 % 256) + pop8 (n / 65536)
theorem g1_le : ∀ b : Fin 256, (b.val / 2 &&& 85) ≤ b.val ∧ g1 b.val < 256 := by decide +kernel
theorem g2_le : ∀ b : Fin 256, g2 (g1 b.val) % 16 ≤ 4 ∧ g2 (g1 b.val) / 16 ≤ 4 := by decide +kernel
theorem pop8_le : ∀ b : Fin 256, pop8 b.val ≤ 8 := by decide +kernel
theorem f1 : ∀ b : Fin 256, ∀ t : Fin 2, (b.val / 2 + 128 * t.val) &&& 85 = b.val / 2 &&& 85 := by decide +kernel
theorem f2 : ∀ b : Fin 256, ∀ t : Fin 4, (b.val / 4 + 64 * t.val) &&& 51 = b.val / 4 &&& 51 := by decide +kernel
theorem f3 : ∀ b : Fin 69, ∀ t : Fin 5, (b.val + b.val / 16 + 16 * t.val) &&& 15 = (b.val + b.val / 16) &&& 15 := by decide +kernel
theorem s1 {b r M : Nat} (hb : b < 256) : (b + 256 * r) / 2 &&& (85 + 256 * M) = (b / 2 &&& 85) + 256 * (r / 2 &&& M) := by
  rw [show (b + 256 * r) / 2 = (b / 2 + 128 * (r % 2)) + 256 * (r / 2) by omega, and_split (by omega) (by decide), f1 ⟨b, hb⟩ ⟨r % 2, by omega⟩]
theorem s2 {b r M : Nat} (hb : b < 256) : (b + 256 * r) / 4 &&& (51 + 256 * M) = (b / 4 &&& 51) + 256 * (r / 4 &&& M) := by
  rw [show (b + 256 * r) / 4 = (b / 4 + 64 * (r % 4)) + 256 * (r / 4) by omega, and_split (by omega) (by decide), f2 ⟨b, hb⟩ ⟨r % 4, by omega⟩]
theorem s3 {b r M : Nat} (hb : b % 16 ≤ 4 ∧ b / 16 ≤ 4) (hr : r % 16 ≤ 4) : (b + 256 * r + (b + 256 * r) / 16) &&& (15 + 256 * M) = ((b + b / 16) &&& 15) + 256 * ((r + r / 16) &&& M) := by
  rw [show b + 256 * r + (b + 256 * r) / 16 = (b + b / 16 + 16 * (r % 16)) + 256 * (r + r / 16) by omega, and_split (by omega) (by decide), f3 ⟨b, by omega⟩ ⟨r % 16, by omega⟩]
theorem pop_step1 {b0 b1 b2 : Nat} (h0 : b0 < 256) (h1 : b1 < 256) (h2 : b2 < 16) : (b0 + 256 * (b1 + 256 * b2)) - ((b0 + 256 * (b1 + 256 * b2)) / 2 &&& 1431655765) = g1 b0 + 256 * (g1 b1 + 256 * g1 b2) := by
  rw [show (1431655765 : Nat) = 85 + 256 * (85 + 256 * (85 + 256 * 85)) by decide, s1 h0, s1 h1]
  have e2 : b2 / 2 &&& (85 + 256 * 85) = b2 / 2 &&& 85 := by
    have : ∀ k : Fin 16, k.val / 2 &&& (85 + 256 * 85) = k.val / 2 &&& 85 := by decide +kernel
    exact this ⟨b2, h2⟩
  rw [e2]
  have l0 := (g1_le ⟨b0, h0⟩).1
  have l1 := (g1_le ⟨b1, h1⟩).1
  have l2 := (g1_le ⟨b2, by omega⟩).1
  dsimp only at l0 l1 l2
  unfold g1
  omega
theorem pop_step2 {b0 b1 b2 : Nat} (h0 : b0 < 256) (h1 : b1 < 256) (h2 : b2 < 256) : ((b0 + 256 * (b1 + 256 * b2)) &&& 858993459) + ((b0 + 256 * (b1 + 256 * b2)) / 4 &&& 858993459) = g2 b0 + 256 * (g2 b1 + 256 * g2 b2) := by
  rw [show (858993459 : Nat) = 51 + 256 * (51 + 256 * (51 + 256 * 51)) by decide, s2 h0, s2 h1, and_split h0 (by decide), and_split h1 (by decide)]
  have e2 : b2 &&& (51 + 256 * 51) = b2 &&& 51 ∧ b2 / 4 &&& (51 + 256 * 51) = b2 / 4 &&& 51 := by
    have : ∀ k : Fin 256, k.val &&& (51 + 256 * 51) = k.val &&& 51 ∧ k.val / 4 &&& (51 + 256 * 51) = k.val / 4 &&& 51 := by decide +kernel
    exact this ⟨b2, h2⟩
  rw [e2.1, e2.2]
  unfold g2
  omega
theorem pop_step3 {b0 b1 b2 : Nat} (h0 : b0 % 16 ≤ 4 ∧ b0 / 16 ≤ 4) (h1 : b1 % 16 ≤ 4 ∧ b1 / 16 ≤ 4) (h2 : b2 % 16 ≤ 4 ∧ b2 / 16 ≤ 4) : (b0 + 256 * (b1 + 256 * b2) + (b0 + 256 * (b1 + 256 * b2)) / 16) &&& 252645135 = g3 b0 + 256 * (g3 b1 + 256 * g3 b2) := by
  rw [show (252645135 : Nat) = 15 + 256 * (15 + 256 * (15 + 256 * 15)) by decide, s3 h0 (by omega), s3 h1 (by omega)]
  have e2 : (b2 + b2 / 16) &&& (15 + 256 * 15) = (b2 + b2 / 16) &&& 15 := by
    have : ∀ k : Fin 69, (k.val + k.val / 16) &&& (15 + 256 * 15) = (k.val + k.val / 16) &&& 15 := by decide +kernel
    exact this ⟨b2, by omega⟩
  rw [e2]
  rfl
theorem bc_eq {n : Nat} (hn : n < 2 ^ 20) : bcV (n : Int) = (bcN n : Int) := by
  obtain ⟨b0, b1, b2, h0, h1, h2, e⟩ : ∃ b0 b1 b2 : Nat, b0 < 256 ∧ b1 < 256 ∧ b2 < 16 ∧ n = b0 + 256 * (b1 + 256 * b2) := ⟨n % 256, n / 256 % 256, n / 65536, by omega, by omega, by omega, by omega⟩
  have hbc : bcN n = pop8 b0 + pop8 b1 + pop8 b2 := by
    unfold bcN
    rw [show n % 256 = b0 by omega, show n / 256 % 256 = b1 by omega, show n / 65536 = b2 by omega]
  have a0 := (g1_le ⟨b0, h0⟩).2
  have a1 := (g1_le ⟨b1, h1⟩).2
  have a2 := (g1_le ⟨b2, by omega⟩).2
  have c0 := g2_le ⟨b0, h0⟩
  have c1 := g2_le ⟨b1, h1⟩
  have c2 := g2_le ⟨b2, by omega⟩
  have p0 := pop8_le ⟨b0, h0⟩
  have p1 := pop8_le ⟨b1, h1⟩
  have p2 := pop8_le ⟨b2, by omega⟩
  dsimp only at a0 a1 a2 c0 c1 c2 p0 p1 p2
  have st1 := pop_step1 h0 h1 h2
  have st2 := pop_step2 a0 a1 a2
  have st3 := pop_step3 c0 c1 c2
  have e1 : bc1 (n : Int) = ((g1 b0 + 256 * (g1 b1 + 256 * g1 b2) : Nat) : Int) := by
    unfold bc1
    rw [show (1 : Int) = ((1 : Nat) : Int) from rfl, iush_nat (by omega) (by decide), show (1431655765 : Int) = ((1431655765 : Nat) : Int) from rfl, iand_nat (by omega) (by decide), ← st1, ← e]
    have : (n / 2 ^ 1 &&& 1431655765) ≤ n := Nat.le_trans Nat.and_le_left (Nat.div_le_self _ _)
    rw [show n / 2 = n / 2 ^ 1 from rfl, w32_id (by omega)]
    omega
  have e2 : bc2 ((g1 b0 + 256 * (g1 b1 + 256 * g1 b2) : Nat) : Int) = ((g2 (g1 b0) + 256 * (g2 (g1 b1) + 256 * g2 (g1 b2)) : Nat) : Int) := by
    unfold bc2
    rw [show (2 : Int) = ((2 : Nat) : Int) from rfl, iush_nat (by omega) (by decide), show (858993459 : Int) = ((858993459 : Nat) : Int) from rfl, iand_nat (by omega) (by decide), iand_nat (by omega) (by decide), ← st2]
    rw [show ∀ x : Nat, x / 2 ^ 2 = x / 4 from fun x => rfl, w32_id (by omega)]
    omega
  have e3 : bc3 ((g2 (g1 b0) + 256 * (g2 (g1 b1) + 256 * g2 (g1 b2)) : Nat) : Int) = ((pop8 b0 + 256 * (pop8 b1 + 256 * pop8 b2) : Nat) : Int) := by
    unfold bc3
    rw [show (4 : Int) = ((4 : Nat) : Int) from rfl, iush_nat (by omega) (by decide), w32_id (by omega), show (252645135 : Int) = ((252645135 : Nat) : Int) from rfl, ← Int.natCast_add, iand_nat (by omega) (by decide), show ∀ x : Nat, x / 2 ^ 4 = x / 16 from fun x => rfl, st3]
    rfl
  have e4 : bc4 ((pop8 b0 + 256 * (pop8 b1 + 256 * pop8 b2) : Nat) : Int) = (((pop8 b0 + pop8 b1) + 256 * ((pop8 b1 + pop8 b2) + 256 * pop8 b2) : Nat) : Int) := by
    unfold bc4
    rw [show (8 : Int) = ((8 : Nat) : Int) from rfl, iush_nat (by omega) (by decide), w32_id (by omega)]
    omega
  have e5 : bc5 (((pop8 b0 + pop8 b1) + 256 * ((pop8 b1 + pop8 b2) + 256 * pop8 b2) : Nat) : Int) = ((pop8 b0 + pop8 b1 + pop8 b2 : Nat) : Int) := by
    unfold bc5
    have hdv : (pop8 b0 + pop8 b1 + 256 * (pop8 b1 + pop8 b2 + 256 * pop8 b2)) / 2 ^ 16 = pop8 b2 := by omega
    rw [show (16 : Int) = ((16 : Nat) : Int) from rfl, iush_nat (by omega) (by decide), hdv, w32_id (by omega)]
    have := iand_mask ((((pop8 b0 + pop8 b1) + 256 * ((pop8 b1 + pop8 b2) + 256 * pop8 b2) : Nat) : Int) + ((pop8 b2 : Nat) : Int)) 6 (by decide)
    refine Eq.trans this ?_
    have e64 : ((2 ^ 6 : Nat) : Int) = 64 := rfl
    rw [e64]
    clear this e1 e2 e3 e4 st1 st2 st3
    omega
  unfold bcV
  rw [e1, e2, e3, e4, e5, hbc]
theorem pop_or : ∀ b : Fin 256, ∀ v : Fin 8, pop8 (b.val ||| 2 ^ v.val) = pop8 b.val + (1 - b.val / 2 ^ v.val % 2) := by decide +kernel
theorem bcN_or {n w : Nat} (hn : n < 2 ^ 20) (hw : w < 20) : bcN (n ||| 2 ^ w) = bcN n + (1 - n / 2 ^ w % 2) := by
  unfold bcN
  have d1 := or_div8 n (2 ^ w) 8
  have d2 := or_div8 n (2 ^ w) 16
  have m0 := Nat.or_mod_two_pow (a := n) (b := 2 ^ w) (n := 8)
  have m1 := Nat.or_mod_two_pow (a := n / 2 ^ 8) (b := 2 ^ w / 2 ^ 8) (n := 8)
  have eA : (n ||| 2 ^ w) % 256 = n % 256 ||| 2 ^ w % 256 := m0
  have eB : (n ||| 2 ^ w) / 256 % 256 = n / 256 % 256 ||| 2 ^ w / 256 % 256 := (congrArg (· % 256) d1).trans m1
  have eC : (n ||| 2 ^ w) / 65536 = n / 65536 ||| 2 ^ w / 65536 := d2
  rw [eA, eB, eC]
  by_cases q : w < 8
  · have e0 : 2 ^ w % 256 = 2 ^ w ∧ 2 ^ w / 256 % 256 = 0 ∧ 2 ^ w / 65536 = 0 := by
      have : ∀ k : Fin 8, 2 ^ k.val % 256 = 2 ^ k.val ∧ 2 ^ k.val / 256 % 256 = 0 ∧ 2 ^ k.val / 65536 = 0 := by decide +kernel
      exact this ⟨w, q⟩
    rw [e0.1, e0.2.1, e0.2.2, Nat.or_zero, Nat.or_zero]
    have := pop_or ⟨n % 256, by omega⟩ ⟨w, q⟩
    dsimp only at this
    rw [this]
    have eb : n % 256 / 2 ^ w % 2 = n / 2 ^ w % 2 := by
      obtain rfl | rfl | rfl | rfl | rfl | rfl | rfl | rfl : w = 0 ∨ w = 1 ∨ w = 2 ∨ w = 3 ∨ w = 4 ∨ w = 5 ∨ w = 6 ∨ w = 7 := by omega
      all_goals omega
    omega
  · by_cases q2 : w < 16
    · obtain ⟨v, rfl⟩ : ∃ v, w = v + 8 := ⟨w - 8, by omega⟩
      have hv : v < 8 := by omega
      have e0 : 2 ^ (v + 8) % 256 = 0 ∧ 2 ^ (v + 8) / 256 % 256 = 2 ^ v ∧ 2 ^ (v + 8) / 65536 = 0 := by
        have : ∀ k : Fin 8, 2 ^ (k.val + 8) % 256 = 0 ∧ 2 ^ (k.val + 8) / 256 % 256 = 2 ^ k.val ∧ 2 ^ (k.val + 8) / 65536 = 0 := by decide +kernel
        exact this ⟨v, hv⟩
      rw [e0.1, e0.2.1, e0.2.2, Nat.or_zero, Nat.or_zero]
      have := pop_or ⟨n / 256 % 256, by omega⟩ ⟨v, hv⟩
      dsimp only at this
      rw [this]
      have eb : n / 256 % 256 / 2 ^ v % 2 = n / 2 ^ (v + 8) % 2 := by
        obtain rfl | rfl | rfl | rfl | rfl | rfl | rfl | rfl : v = 0 ∨ v = 1 ∨ v = 2 ∨ v = 3 ∨ v = 4 ∨ v = 5 ∨ v = 6 ∨ v = 7 := by omega
        all_goals omega
      omega
    · obtain ⟨v, rfl⟩ : ∃ v, w = v + 16 := ⟨w - 16, by omega⟩
      have hv : v < 4 := by omega
      have e0 : 2 ^ (v + 16) % 256 = 0 ∧ 2 ^ (v + 16) / 256 % 256 = 0 ∧ 2 ^ (v + 16) / 65536 = 2 ^ v := by
        have : ∀ k : Fin 4, 2 ^ (k.val + 16) % 256 = 0 ∧ 2 ^ (k.val + 16) / 256 % 256 = 0 ∧ 2 ^ (k.val + 16) / 65536 = 2 ^ k.val := by decide +kernel
        exact this ⟨v, hv⟩
      rw [e0.1, e0.2.1, e0.2.2, Nat.or_zero, Nat.or_zero]
      have := pop_or ⟨n / 65536, by omega⟩ ⟨v, by omega⟩
      dsimp only at this
      rw [this]
      have eb : n / 65536 / 2 ^ v % 2 = n / 2 ^ (v + 16) % 2 := by
        obtain rfl | rfl | rfl | rfl : v = 0 ∨ v = 1 ∨ v = 2 ∨ v = 3 := by omega
        all_goals omega
      omega
