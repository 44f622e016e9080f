/-! ===== the weights of Sureness are whole ===== -/
def wP : Nat := 4963595372164418730243844250278933730416682962970482173955824000
/-- the weight of k + d things, k numbers found -/
def wS (k : Nat) : Nat → Nat
  | 0 => wP
  | d + 1 => wS k d * (d + 1) / (k + d + 1)
def wChk (k : Nat) : Nat → Nat → Nat → Bool
  | 0, _, _ => true
  | f + 1, d, w => (w * (d + 1)) % (k + d + 1) == 0 && wChk k f (d + 1) (w * (d + 1) / (k + d + 1))
theorem wChk_ok : ∀ k : Fin 61, wChk k.val (150 - k.val) 0 wP = true := by decide +kernel
theorem wChk_use {k : Nat} : ∀ (f d : Nat), wChk k f d (wS k d) = true → ∀ e, e < f → wS k (d + e) * (d + e + 1) % (k + (d + e) + 1) = 0
  | 0, _, _, e, he => by omega
  | f + 1, d, h, e, he => by
    have h' : ((wS k d * (d + 1)) % (k + d + 1) == 0 && wChk k f (d + 1) (wS k (d + 1))) = true := h
    rw [Bool.and_eq_true] at h'
    match e with
    | 0 => exact eq_of_beq h'.1
    | e + 1 =>
      have := wChk_use f (d + 1) h'.2 e (by omega)
      rw [show d + (e + 1) = d + 1 + e by omega]
      exact this
/-- each step is exact -/
theorem wS_step {k d : Nat} (hk : k ≤ 60) (hd : k + d + 1 ≤ 150) : wS k (d + 1) * (k + d + 1) = wS k d * (d + 1) := by
  have h := wChk_use (k := k) (150 - k) 0 (wChk_ok ⟨k, by omega⟩) d (by omega)
  rw [Nat.zero_add] at h
  show wS k d * (d + 1) / (k + d + 1) * (k + d + 1) = _
  exact Nat.div_mul_cancel (Nat.dvd_of_mod_eq_zero h)
theorem wS_fall (k d : Nat) : wS k (d + 1) ≤ wS k d := by
  show wS k d * (d + 1) / (k + d + 1) ≤ wS k d
  refine Nat.div_le_of_le_mul ?_
  rw [Nat.mul_comm]
  exact Nat.mul_le_mul_right _ (by omega)
/-! ===== every weight is made of in the first of all ===== -/
def dChk (k : Nat) : Nat → Nat → Nat → Bool
  | 0, _, w => wP % w == 0
  | f + 1, d, w => wP % w == 0 && dChk k f (d + 1) (w * (d + 1) / (k + d + 1))
theorem dChk_ok : ∀ k : Fin 61, dChk k.val (150 - k.val) 0 wP = true := by decide +kernel
theorem dChk_use {k : Nat} : ∀ (f d : Nat), dChk k f d (wS k d) = true → ∀ e, e ≤ f → wP % wS k (d + e) = 0
  | 0, d, h, e, he => by
    have : e = 0 := by omega
    subst this
    exact eq_of_beq h
  | f + 1, d, h, e, he => by
    have h' : (wP % wS k d == 0 && dChk k f (d + 1) (wS k (d + 1))) = true := h
    rw [Bool.and_eq_true] at h'
    match e with
    | 0 => exact eq_of_beq h'.1
    | e + 1 =>
      have := dChk_use f (d + 1) h'.2 e (by omega)
      rw [show d + (e + 1) = d + 1 + e by omega]
      exact this
/-- by how much the class's weights are more than the plain ones: the lowest weighs wP -/
def wQ (k lo : Nat) : Nat := wP / wS k (lo - k)
theorem wQ_eq {k lo : Nat} (hk : k ≤ 60) (hkl : k ≤ lo) (hl : lo ≤ 150) : wS k (lo - k) * wQ k lo = wP := by
  have h := dChk_use (k := k) (150 - k) 0 (dChk_ok ⟨k, by omega⟩) (lo - k) (by omega)
  rw [Nat.zero_add] at h
  unfold wQ
  exact Nat.mul_div_cancel' (Nat.dvd_of_mod_eq_zero h)
theorem wQ_pos {k lo : Nat} (hk : k ≤ 60) (hkl : k ≤ lo) (hl : lo ≤ 150) : 0 < wQ k lo := by
  have h := wQ_eq hk hkl hl
  refine Nat.pos_of_ne_zero fun q => ?_
  rw [q, Nat.mul_zero] at h
  exact absurd h (by decide)
theorem wS_anti (k d : Nat) : ∀ c : Nat, wS k (d + c) ≤ wS k d
  | 0 => Nat.le_refl _
  | c + 1 => Nat.le_trans (wS_fall k (d + c)) (wS_anti k d c)
theorem wQ_le {k lo : Nat} (hk : k ≤ 60) (hkl : k ≤ lo) (hl : lo ≤ 150) (c : Nat) : wS k (lo + c - k) * wQ k lo ≤ wP := by
  have h := Nat.mul_le_mul_right (wQ k lo) (wS_anti k (lo - k) c)
  rw [wQ_eq hk hkl hl, show lo - k + c = lo + c - k by omega] at h
  exact h
