/-! ===== sums of the weights ===== -/
section Sums
variable {k lo : Nat}
def wSum (k lo : Nat) : Nat → Nat
  | 0 => 0
  | c + 1 => wSum k lo c + wS k (lo + c - k)
def wPart (k lo : Nat) (x y : Int) : Nat → Nat
  | 0 => 0
  | c + 1 => wPart k lo x y c + (if x ≤ ((lo + c : Nat) : Int) ∧ ((lo + c : Nat) : Int) ≤ y then wS k (lo + c - k) else 0)
theorem wSum_le (k lo : Nat) : ∀ c, wSum k lo c ≤ wP * c
  | 0 => Nat.zero_le _
  | c + 1 => by
    have h1 := wSum_le k lo c
    have h2 := wS_le k (lo + c - k)
    show wSum k lo c + wS k (lo + c - k) ≤ wP * (c + 1)
    rw [Nat.mul_add, Nat.mul_one]
    exact Nat.add_le_add h1 h2
theorem wPart_le (k lo : Nat) (x y : Int) : ∀ c, wPart k lo x y c ≤ wSum k lo c
  | 0 => Nat.le_refl _
  | c + 1 => by
    have h1 := wPart_le k lo x y c
    show wPart k lo x y c + _ ≤ wSum k lo c + wS k (lo + c - k)
    refine Nat.add_le_add h1 ?_
    split
    · exact Nat.le_refl _
    · exact Nat.zero_le _
theorem lt64 {v : Nat} (h : v ≤ wP * 200000) : ((v : Nat) : Int) < zB ^ 64 := Int.lt_of_le_of_lt (Int.ofNat_le.mpr h) (by decide +kernel)
theorem wSum_lt {c : Nat} (hc : c ≤ 200) : wSum k lo c ≤ wP * 200 := Nat.le_trans (wSum_le k lo c) (Nat.mul_le_mul_left _ hc)
theorem wSum_ltb {c b : Nat} (hc : c ≤ 200) (hb : b ≤ 1000) : wSum k lo c * b ≤ wP * 200000 := by
  have h := Nat.mul_le_mul (wSum_lt (k := k) (lo := lo) hc) hb
  rw [Nat.mul_assoc] at h
  exact h
theorem wSum_lt1 {c : Nat} (hc : c ≤ 200) : wSum k lo c ≤ wP * 200000 := by
  have h := wSum_ltb (k := k) (lo := lo) hc (b := 1) (by omega)
  rw [Nat.mul_one] at h
  exact h
theorem wS_pos (hk : k ≤ 60) : ∀ {d : Nat}, k + d ≤ 150 → 0 < wS k d
  | 0, _ => by show 0 < wP; decide
  | d + 1, h => by
    have h1 := wS_pos hk (d := d) (by omega)
    have h2 := wS_step (k := k) (d := d) hk (by omega)
    have h3 : 0 < wS k d * (d + 1) := Nat.mul_pos h1 (by omega)
    rw [← h2] at h3
    exact Nat.pos_of_mul_pos_right h3
theorem wSum_pos (hk : k ≤ 60) (h : lo ≤ 150) (hkl : k ≤ lo) : ∀ {c : Nat}, 0 < c → 0 < wSum k lo c
  | 0, h => by omega
  | 1, _ => by
    show 0 < 0 + wS k (lo + 0 - k)
    rw [Nat.zero_add]
    exact wS_pos hk (by omega)
  | c + 2, _ => Nat.lt_of_lt_of_le (wSum_pos hk h hkl (c := c + 1) (by omega)) (Nat.le_add_right _ _)
theorem wSumQ_le (hk : k ≤ 60) (hkl : k ≤ lo) (hl : lo ≤ 150) : ∀ c, wSum k lo c * wQ k lo ≤ wP * c
  | 0 => by
    show 0 * _ ≤ _
    rw [Nat.zero_mul]
    exact Nat.zero_le _
  | c + 1 => by
    have h1 := wSumQ_le hk hkl hl c
    have h2 := wQ_le hk hkl hl c
    show (wSum k lo c + wS k (lo + c - k)) * wQ k lo ≤ wP * (c + 1)
    rw [Nat.add_mul, Nat.mul_add, Nat.mul_one]
    exact Nat.add_le_add h1 h2
theorem wSumQ_lt (hk : k ≤ 60) (hkl : k ≤ lo) (hl : lo ≤ 150) {c : Nat} (hc : c ≤ 200) : wSum k lo c * wQ k lo ≤ wP * 200 := Nat.le_trans (wSumQ_le hk hkl hl c) (Nat.mul_le_mul_left _ hc)
theorem wSumQ_ltb (hk : k ≤ 60) (hkl : k ≤ lo) (hl : lo ≤ 150) {c b : Nat} (hc : c ≤ 200) (hb : b ≤ 1000) : wSum k lo c * wQ k lo * b ≤ wP * 200000 := by
  have h := Nat.mul_le_mul (wSumQ_lt hk hkl hl hc) hb
  rw [Nat.mul_assoc wP] at h
  exact h
theorem wSumQ_lt1 (hk : k ≤ 60) (hkl : k ≤ lo) (hl : lo ≤ 150) {c : Nat} (hc : c ≤ 200) : wSum k lo c * wQ k lo ≤ wP * 200000 := by
  have h := wSumQ_ltb hk hkl hl hc (b := 1) (by omega)
  rw [Nat.mul_one] at h
  exact h
theorem q_lt {A B q a b : Nat} (hq : 0 < q) : A * (q * b) < B * q * a ↔ A * b < B * a := by
  rw [show A * (q * b) = q * (A * b) by rw [← Nat.mul_assoc, Nat.mul_comm A q, Nat.mul_assoc], show B * q * a = q * (B * a) by rw [Nat.mul_comm B q, Nat.mul_assoc]]
  exact Nat.mul_lt_mul_left hq
theorem q_low {A B q : Nat} (hq : 0 < q) : A * q / Nat.gcd (A * q) (B * q) = A / Nat.gcd A B ∧ B * q / Nat.gcd (A * q) (B * q) = B / Nat.gcd A B := by
  rw [Nat.gcd_mul_right]
  exact ⟨Nat.mul_div_mul_right _ _ hq, Nat.mul_div_mul_right _ _ hq⟩
/-- one step, a factor beside it -/
theorem wS_stepb {d b : Nat} (hk : k ≤ 60) (hd : k + d + 1 ≤ 150) : wS k d * b * (d + 1) / (k + d + 1) = wS k (d + 1) * b := by
  have h := wS_step (k := k) (d := d) hk hd
  rw [show wS k d * b * (d + 1) = wS k d * (d + 1) * b by rw [Nat.mul_assoc, Nat.mul_comm b, ← Nat.mul_assoc], ← h, show wS k (d + 1) * (k + d + 1) * b = wS k (d + 1) * b * (k + d + 1) by rw [Nat.mul_assoc, Nat.mul_comm (k + d + 1), ← Nat.mul_assoc]]
  exact Nat.mul_div_cancel _ (by omega)
/-- how far the narrowest span goes -/
def spE (k lo W a b : Nat) : Nat → Nat → Nat
  | 0, c => c
  | e + 1, c => if wSum k lo (c + 1) * b < W * a then spE k lo W a b e (c + 1) else c
theorem spE_le {W a b : Nat} : ∀ e c : Nat, c ≤ spE k lo W a b e c ∧ spE k lo W a b e c ≤ c + e
  | 0, c => ⟨Nat.le_refl _, Nat.le_refl _⟩
  | e + 1, c => by
    show c ≤ (if _ then _ else _) ∧ (if _ then _ else _) ≤ _
    have h := spE_le (W := W) (a := a) (b := b) e (c + 1)
    split <;> omega
theorem spE_lt {W a b : Nat} : ∀ (e c j : Nat), c ≤ j → j < spE k lo W a b e c → wSum k lo (j + 1) * b < W * a
  | 0, c, j, h1, h2 => by
    have : j < c := h2
    omega
  | e + 1, c, j, h1, h2 => by
    have h2' : j < if wSum k lo (c + 1) * b < W * a then spE k lo W a b e (c + 1) else c := h2
    split at h2'
    · rename_i q
      by_cases hj : j = c
      · subst hj; exact q
      · exact spE_lt e (c + 1) j (by omega) h2'
    · omega
theorem spE_ge {W a b : Nat} : ∀ (e c : Nat), spE k lo W a b e c < c + e → W * a ≤ wSum k lo (spE k lo W a b e c + 1) * b
  | 0, c, h => by
    have : c < c := h
    omega
  | e + 1, c, h => by
    have h2 : (if wSum k lo (c + 1) * b < W * a then spE k lo W a b e (c + 1) else c) < c + (e + 1) := h
    show W * a ≤ wSum k lo ((if wSum k lo (c + 1) * b < W * a then spE k lo W a b e (c + 1) else c) + 1) * b
    by_cases q : wSum k lo (c + 1) * b < W * a
    · rw [if_pos q] at h2 ⊢
      exact spE_ge e (c + 1) (by omega)
    · rw [if_neg q]
      omega
/-- the answer of a span -/
def spY (k lo hi a b : Nat) : Nat := lo + spE k lo (wSum k lo (hi + 1 - lo)) a b (hi - lo) 0
end Sums
