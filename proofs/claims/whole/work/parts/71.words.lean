/-! ===== what words say of keys ===== -/
def ltr (c j : Nat) : Nat := c / 6 ^ j % 6
theorem ltr_lt (c j : Nat) : ltr c j < 6 := Nat.mod_lt _ (by decide)
def valN (g : Int → Int) (c : Nat) : Nat → Int
  | 0 => 0
  | n + 1 => valN g c n + ((10 ^ n : Nat) : Int) * g ((ltr c n : Nat) : Int)
theorem valN_congr {g k : Int → Int} {c : Nat} : ∀ {n : Nat}, (∀ j, j < n → g ((ltr c j : Nat) : Int) = k ((ltr c j : Nat) : Int)) → valN g c n = valN k c n
  | 0, _ => rfl
  | n + 1, h => by
    show valN g c n + _ = valN k c n + _
    rw [valN_congr (fun j hj => h j (by omega)), h n (by omega)]
/-- figures from 0 to 9 -/
def figR (g : Int → Int) : Prop := ∀ a : Nat, a < 6 → 0 ≤ g (a : Int) ∧ g (a : Int) ≤ 9
theorem valN_bd {g : Int → Int} (hg : figR g) (c : Nat) : ∀ n : Nat, 0 ≤ valN g c n ∧ valN g c n < ((10 ^ n : Nat) : Int)
  | 0 => ⟨Int.le_refl 0, by show (0 : Int) < ((10 ^ 0 : Nat) : Int); decide⟩
  | n + 1 => by
    have ih := valN_bd hg c n
    have h := hg (ltr c n) (ltr_lt c n)
    show 0 ≤ valN g c n + ((10 ^ n : Nat) : Int) * g ((ltr c n : Nat) : Int) ∧ valN g c n + ((10 ^ n : Nat) : Int) * g ((ltr c n : Nat) : Int) < _
    have hp : (0 : Int) ≤ ((10 ^ n : Nat) : Int) := by omega
    have h1 := Int.mul_nonneg hp h.1
    have h2 := Int.mul_le_mul_of_nonneg_left h.2 hp
    rw [Nat.pow_succ]
    generalize ((10 ^ n : Nat) : Int) * g ((ltr c n : Nat) : Int) = p at *
    omega
abbrev okWP (wd : Nat → Nat → Int) (g : Int → Int) (w : Nat) : Prop := wd 2 w ≤ valN g (wd 1 w).toNat (wd 0 w).toNat ∧ valN g (wd 1 w).toNat (wd 0 w).toNat ≤ wd 3 w
def okK (nw : Nat) (wd : Nat → Nat → Int) : KP := fun g => (List.range nw).all fun w => decide (okWP wd g w)
theorem okK_iff {nw : Nat} {wd : Nat → Nat → Int} {g : Int → Int} : okK nw wd g = true ↔ ∀ w : Nat, w < nw → okWP wd g w := by
  unfold okK
  rw [List.all_eq_true]
  constructor
  · intro h w hw
    exact of_decide_eq_true (h w (List.mem_range.mpr hw))
  · intro h w hw
    exact decide_eq_true (h w (List.mem_range.mp hw))
theorem okWP_congr {wd : Nat → Nat → Int} {g k : Int → Int} {w : Nat} (h : ∀ j, j < (wd 0 w).toNat → g ((ltr (wd 1 w).toNat j : Nat) : Int) = k ((ltr (wd 1 w).toNat j : Nat) : Int)) : okWP wd g w ↔ okWP wd k w := by
  unfold okWP
  rw [valN_congr h]
theorem okK_resp (nw : Nat) (wd : Nat → Nat → Int) : resp (okK nw wd) := by
  intro g k h
  have : okK nw wd g = true ↔ okK nw wd k = true := by
    rw [okK_iff, okK_iff]
    exact ⟨fun q w hw => (okWP_congr fun j _ => h _ (ltr_lt _ _)).mp (q w hw), fun q w hw => (okWP_congr fun j _ => h _ (ltr_lt _ _)).mpr (q w hw)⟩
  cases e1 : okK nw wd g <;> cases e2 : okK nw wd k
  · rfl
  · rw [e1, e2] at this; exact absurd (this.mpr rfl) (by decide)
  · rw [e1, e2] at this; exact absurd (this.mp rfl) (by decide)
  · rfl
def andP (P Q : KP) : KP := fun g => P g && Q g
theorem resp_and {P Q : KP} (hP : resp P) (hQ : resp Q) : resp (andP P Q) := fun g k h => by
  unfold andP
  rw [hP g k h, hQ g k h]
def fgP (l f : Nat) : KP := fun g => decide (g (l : Int) = (f : Int))
theorem fgP_resp {l f : Nat} (hl : l < 6) : resp (fgP l f) := fun g k h => by
  unfold fgP
  rw [h l hl]
def vlP (c n : Nat) (v : Int) : KP := fun g => decide (valN g c n = v)
theorem vlP_resp (c n : Nat) (v : Int) : resp (vlP c n v) := fun g k h => by
  unfold vlP
  rw [valN_congr fun j _ => h _ (ltr_lt c j)]
def trP : KP := fun _ => true
theorem trP_resp : resp trP := fun _ _ _ => rfl
abbrev six : List Nat := [0, 1, 2, 3, 4, 5]
/-- how many keys keep P -/
def keyC (nw : Nat) (wd : Nat → Nat → Int) (P : KP) : Nat := cnt (andP (okK nw wd) P) six (fun _ => 0) 0
/-- the answers -/
def mayR (nw : Nat) (wd : Nat → Nat → Int) (l : Nat) (z : Int) : Prop := ∃ x : Nat, z = (x : Int) ∧ x < 1024 ∧ ∀ f : Nat, f < 10 → x.testBit f = decide (0 < keyC nw wd (fgP l f))
theorem mayR.uniq {nw : Nat} {wd : Nat → Nat → Int} {l : Nat} {z z' : Int} (h : mayR nw wd l z) (h' : mayR nw wd l z') : z = z' := by
  obtain ⟨x, rfl, hx, h1⟩ := h
  obtain ⟨y, rfl, hy, h2⟩ := h'
  have : x = y := by
    apply Nat.eq_of_testBit_eq
    intro i
    by_cases q : i < 10
    · rw [h1 i q, h2 i q]
    · have e : 2 ^ 10 ≤ 2 ^ i := Nat.pow_le_pow_right (by decide) (by omega)
      rw [Nat.testBit_lt_two_pow (by omega), Nat.testBit_lt_two_pow (by omega)]
  rw [this]
def rdR (nw : Nat) (wd : Nat → Nat → Int) (c n : Nat) (wh z : Int) : Prop := (keyC nw wd trP = 0 → z = -1) ∧ (0 < keyC nw wd trP → 0 < keyC nw wd (vlP c n z) ∧ (wh = 0 → ∀ v : Int, v < z → keyC nw wd (vlP c n v) = 0) ∧ (¬ wh = 0 → ∀ v : Int, z < v → keyC nw wd (vlP c n v) = 0))
theorem rdR.uniq {nw : Nat} {wd : Nat → Nat → Int} {c n : Nat} {wh z z' : Int} (h : rdR nw wd c n wh z) (h' : rdR nw wd c n wh z') : z = z' := by
  by_cases q : keyC nw wd trP = 0
  · rw [h.1 q, h'.1 q]
  · obtain ⟨a1, a2, a3⟩ := h.2 (by omega)
    obtain ⟨b1, b2, b3⟩ := h'.2 (by omega)
    by_cases w : wh = 0
    · have h1 : ¬ z < z' := fun t => by have := b2 w z t; omega
      have h2 : ¬ z' < z := fun t => by have := a2 w z' t; omega
      omega
    · have h1 : ¬ z < z' := fun t => by have := a3 w z' t; omega
      have h2 : ¬ z' < z := fun t => by have := b3 w z t; omega
      omega
