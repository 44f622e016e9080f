/-! ===== the reference's weights, pure ===== -/
def upN (a : Nat) : Nat → Nat
  | 0 => 1
  | e + 1 => (a + 1) * upN (a + 1) e
theorem upN_split : ∀ (d a e : Nat), upN a (d + e) = upN a d * upN (a + d) e
  | 0, a, e => by
    rw [Nat.zero_add, Nat.add_zero]
    show _ = 1 * _
    rw [Nat.one_mul]
  | d + 1, a, e => by
    rw [show d + 1 + e = (d + e) + 1 by omega]
    show (a + 1) * upN (a + 1) (d + e) = (a + 1) * upN (a + 1) d * upN (a + (d + 1)) e
    rw [upN_split d (a + 1) e, Nat.mul_assoc, show a + 1 + d = a + (d + 1) by omega]
theorem upN_top (a e : Nat) : upN a (e + 1) = upN a e * (a + e + 1) := by
  rw [upN_split e a 1]
  show _ * ((a + e + 1) * 1) = _
  rw [Nat.mul_one]
theorem upN_pos : ∀ (e a : Nat), 0 < upN a e
  | 0, _ => Nat.one_pos
  | e + 1, a => Nat.mul_pos (Nat.succ_pos a) (upN_pos e (a + 1))
theorem upN_le {lo e : Nat} (h : lo + e ≤ 150) : upN lo e ≤ upN 0 150 := by
  have h1 := upN_split lo 0 e
  have h2 := upN_split (lo + e) 0 (150 - (lo + e))
  rw [show lo + e + (150 - (lo + e)) = 150 by omega] at h2
  rw [Nat.zero_add] at h1
  have h3 : upN lo e ≤ upN 0 (lo + e) := by
    rw [h1]
    exact Nat.le_mul_of_pos_left _ (upN_pos lo 0)
  have h4 : upN 0 (lo + e) ≤ upN 0 150 := by
    rw [h2]
    exact Nat.le_mul_of_pos_right _ (upN_pos _ _)
  exact Nat.le_trans h3 h4
section RW
variable {k lo mo : Nat}
def dnN (k lo : Nat) : Nat → Nat
  | 0 => 1
  | c + 1 => dnN k lo c * (lo + c + 1 - k)
def rS (k lo mo c : Nat) : Nat := upN (lo + c) (mo - lo - c) * dnN k lo c
def rSum (k lo mo : Nat) : Nat → Nat
  | 0 => 0
  | c + 1 => rSum k lo mo c + rS k lo mo c
def rWt (k lo mo n : Nat) : Nat := if n < lo then 0 else rS k lo mo (n - lo)
theorem rS_step {c : Nat} (h : lo + c + 1 ≤ mo) : rS k lo mo (c + 1) * (lo + c + 1) = rS k lo mo c * (lo + c + 1 - k) := by
  unfold rS
  obtain ⟨e, he⟩ : ∃ e, mo - lo - c = e + 1 := ⟨mo - lo - c - 1, by omega⟩
  rw [he, show mo - lo - (c + 1) = e by omega]
  show upN (lo + (c + 1)) e * (dnN k lo c * (lo + c + 1 - k)) * (lo + c + 1) = (lo + c + 1) * upN (lo + c + 1) e * dnN k lo c * (lo + c + 1 - k)
  rw [show lo + (c + 1) = lo + c + 1 by omega]
  generalize upN (lo + c + 1) e = p
  generalize dnN k lo c = q
  generalize lo + c + 1 - k = r
  generalize lo + c + 1 = t
  grind
theorem rS_div {c : Nat} (h : lo + c + 1 ≤ mo) : rS k lo mo c * (lo + c + 1 - k) / (lo + c + 1) = rS k lo mo (c + 1) := by
  rw [← rS_step h]
  exact Nat.mul_div_cancel _ (by omega)
theorem rS_fall {c : Nat} (h : lo + c + 1 ≤ mo) : rS k lo mo (c + 1) ≤ rS k lo mo c := by
  rw [← rS_div h]
  refine Nat.div_le_of_le_mul ?_
  rw [Nat.mul_comm]
  exact Nat.mul_le_mul_right _ (by omega)
theorem rS_le : ∀ {c : Nat}, lo + c ≤ mo → rS k lo mo c ≤ rS k lo mo 0
  | 0, _ => Nat.le_refl _
  | c + 1, h => Nat.le_trans (rS_fall (by omega)) (rS_le (by omega))
theorem rS0 : rS k lo mo 0 = upN lo (mo - lo) := by
  show upN (lo + 0) (mo - lo - 0) * 1 = _
  rw [Nat.mul_one]
  rfl
theorem rS0_pos : 0 < rS k lo mo 0 := by
  rw [rS0]
  exact upN_pos _ _
theorem rS_bd {c : Nat} (h : lo + c ≤ mo) (hm : mo ≤ 150) : rS k lo mo c ≤ upN 0 150 := by
  refine Nat.le_trans (rS_le h) ?_
  rw [rS0]
  exact upN_le (by omega)
theorem rSum_bd (hm : mo ≤ 150) : ∀ {c : Nat}, lo + c ≤ mo + 1 → rSum k lo mo c ≤ upN 0 150 * c
  | 0, _ => Nat.zero_le _
  | c + 1, h => by
    have h1 := rSum_bd hm (c := c) (by omega)
    have h2 := rS_bd (k := k) (lo := lo) (c := c) (by omega) hm
    show rSum k lo mo c + rS k lo mo c ≤ upN 0 150 * (c + 1)
    rw [Nat.mul_add, Nat.mul_one]
    exact Nat.add_le_add h1 h2
theorem up150 : ((upN 0 150 * 200 : Nat) : Int) < zB ^ 34 := by decide +kernel
theorem up150b : ((upN 0 150 * 200000 : Nat) : Int) < zB ^ 65 := by decide +kernel
theorem lt34 {v : Nat} (h : v ≤ upN 0 150 * 200) : ((v : Nat) : Int) < zB ^ 34 := Int.lt_of_le_of_lt (Int.ofNat_le.mpr h) up150
theorem lt65 {v : Nat} (h : v ≤ upN 0 150 * 200000) : ((v : Nat) : Int) < zB ^ 65 := Int.lt_of_le_of_lt (Int.ofNat_le.mpr h) up150b
theorem lt66 {v f : Nat} (h : v ≤ upN 0 150 * 200) (hf : f ≤ 1000) : (v : Int) * (f : Int) < zB ^ 66 := by
  rw [← Int.natCast_mul]
  have h1 := Nat.mul_le_mul h hf
  rw [Nat.mul_assoc, show 200 * 1000 = 200000 from rfl] at h1
  exact Int.lt_trans (lt65 h1) (by decide +kernel)
theorem rSum_b2 (hm : mo ≤ 150) {c : Nat} (h : lo + c ≤ mo + 1) : rSum k lo mo c ≤ upN 0 150 * 200 := Nat.le_trans (rSum_bd hm h) (Nat.mul_le_mul_left _ (by omega))
theorem rS_b2 (hm : mo ≤ 150) {c : Nat} (h : lo + c ≤ mo) : rS k lo mo c ≤ upN 0 150 * 200 := Nat.le_trans (rS_bd h hm) (Nat.le_mul_of_pos_right _ (by omega))
/-- class and reference weigh alike -/
theorem r_w (hk : k ≤ 60) (hkl : k ≤ lo) (hm : mo ≤ 150) : ∀ {c : Nat}, lo + c ≤ mo → rS k lo mo c * wS k (lo - k) = wS k (lo + c - k) * rS k lo mo 0
  | 0, _ => Nat.mul_comm _ _
  | c + 1, h => by
    have ih := r_w hk hkl hm (c := c) (by omega)
    have h1 := rS_step (k := k) (c := c) (lo := lo) (mo := mo) (by omega)
    have h2 := wS_step (k := k) (d := lo + c - k) hk (by omega)
    rw [show lo + c - k + 1 = lo + c + 1 - k by omega, show k + (lo + c - k) + 1 = lo + c + 1 by omega] at h2
    rw [show lo + (c + 1) - k = lo + c + 1 - k by omega]
    generalize rS k lo mo (c + 1) = a1 at *
    generalize rS k lo mo c = a0 at *
    generalize wS k (lo + c + 1 - k) = b1 at *
    generalize wS k (lo + c - k) = b0 at *
    generalize wS k (lo - k) = w at *
    generalize rS k lo mo 0 = r at *
    generalize lo + c + 1 - k = t at *
    refine Nat.eq_of_mul_eq_mul_right (show 0 < lo + c + 1 by omega) ?_
    generalize lo + c + 1 = n at *
    grind
theorem rSum_w (hk : k ≤ 60) (hkl : k ≤ lo) (hm : mo ≤ 150) : ∀ {c : Nat}, lo + c ≤ mo + 1 → rSum k lo mo c * wS k (lo - k) = wSum k lo c * rS k lo mo 0
  | 0, _ => by
    show 0 * _ = 0 * _
    rw [Nat.zero_mul, Nat.zero_mul]
  | c + 1, h => by
    have ih := rSum_w hk hkl hm (c := c) (by omega)
    have h1 := r_w hk hkl hm (c := c) (by omega)
    show (rSum k lo mo c + rS k lo mo c) * _ = (wSum k lo c + wS k (lo + c - k)) * _
    rw [Nat.add_mul, Nat.add_mul, ih, h1]
/-- fractions that are alike have the same lowest terms -/
theorem low_alike {A B A' B' w r : Nat} (hw : 0 < w) (hr : 0 < r) (h1 : A' * w = A * r) (h2 : B' * w = B * r) : A' / Nat.gcd A' B' = A / Nat.gcd A B := by
  have hg : Nat.gcd A' B' * w = Nat.gcd A B * r := by
    rw [← Nat.gcd_mul_right, ← Nat.gcd_mul_right, h1, h2]
  rw [← Nat.mul_div_mul_right _ _ hw, h1, hg, Nat.mul_div_mul_right _ _ hr]
theorem low_alike2 {A B A' B' w r : Nat} (hw : 0 < w) (hr : 0 < r) (h1 : A' * w = A * r) (h2 : B' * w = B * r) : B' / Nat.gcd A' B' = B / Nat.gcd A B := by
  rw [Nat.gcd_comm A' B', Nat.gcd_comm A B]
  exact low_alike hw hr h2 h1
theorem wPart_one {n : Nat} : ∀ c : Nat, wPart k lo (n : Int) (n : Int) c = if lo ≤ n ∧ n < lo + c then wS k (n - k) else 0
  | 0 => by rw [if_neg (by omega)]; rfl
  | c + 1 => by
    show wPart k lo (n : Int) (n : Int) c + (if (n : Int) ≤ ((lo + c : Nat) : Int) ∧ ((lo + c : Nat) : Int) ≤ (n : Int) then wS k (lo + c - k) else 0) = _
    rw [wPart_one c]
    by_cases h1 : n = lo + c
    · subst h1
      rw [if_neg (by omega), if_pos (by omega), if_pos (by omega), Nat.zero_add]
    · rw [if_neg (show ¬ ((n : Int) ≤ ((lo + c : Nat) : Int) ∧ ((lo + c : Nat) : Int) ≤ (n : Int)) by omega), Nat.add_zero]
      by_cases h2 : lo ≤ n ∧ n < lo + c
      · rw [if_pos h2, if_pos (by omega)]
      · rw [if_neg h2, if_neg (by omega)]
theorem wPart_from {n : Nat} : ∀ c : Nat, lo + c ≤ 201 → wPart k lo (n : Int) 200 c + wSum k lo (min c (n - lo)) = wSum k lo c
  | 0, _ => by rw [Nat.zero_min]; rfl
  | c + 1, h => by
    have ih := wPart_from (n := n) c (by omega)
    show wPart k lo (n : Int) 200 c + (if (n : Int) ≤ ((lo + c : Nat) : Int) ∧ ((lo + c : Nat) : Int) ≤ 200 then wS k (lo + c - k) else 0) + wSum k lo (min (c + 1) (n - lo)) = wSum k lo c + wS k (lo + c - k)
    by_cases h1 : n ≤ lo + c
    · rw [if_pos (by omega), show min (c + 1) (n - lo) = min c (n - lo) by omega]
      omega
    · rw [if_neg (by omega), show min (c + 1) (n - lo) = c + 1 by omega, Nat.add_zero]
      rw [show min c (n - lo) = c by omega] at ih
      show _ + (wSum k lo c + wS k (lo + c - k)) = _
      omega
/-- a window of the reference's weights is greatest at the lowest -/
theorem rWin : ∀ {c x : Nat}, lo + x + c ≤ mo + 1 → rSum k lo mo (x + c) - rSum k lo mo x ≤ rSum k lo mo c := by
  have mono : ∀ (x c : Nat), lo + x + c ≤ mo → rS k lo mo (x + c) ≤ rS k lo mo c := by
    intro x
    induction x with
    | zero => intro c _; rw [Nat.zero_add]; exact Nat.le_refl _
    | succ x ih =>
      intro c h
      rw [show x + 1 + c = (x + c) + 1 by omega]
      exact Nat.le_trans (rS_fall (by omega)) (ih c (by omega))
  intro c
  induction c with
  | zero => intro x _; rw [Nat.add_zero, Nat.sub_self]; exact Nat.zero_le _
  | succ c ih =>
    intro x h
    have h1 := ih (x := x) (by omega)
    have h2 := mono x c (by omega)
    show rSum k lo mo (x + c) + rS k lo mo (x + c) - rSum k lo mo x ≤ rSum k lo mo c + rS k lo mo c
    omega
theorem rSum_mono {x : Nat} : ∀ c : Nat, rSum k lo mo x ≤ rSum k lo mo (x + c)
  | 0 => Nat.le_refl _
  | c + 1 => Nat.le_trans (rSum_mono c) (Nat.le_add_right _ _)
/-- the span's end by the reference's own sums -/
theorem spY_r (hk : k ≤ 60) (hkl : k ≤ lo) (hlm : lo ≤ mo) (hm : mo ≤ 150) {a b : Nat} (hab : a ≤ b) : ∃ c : Nat, spY k lo mo a b = lo + c ∧ lo + c ≤ mo ∧ rSum k lo mo (mo + 1 - lo) * a ≤ rSum k lo mo (c + 1) * b ∧ ∀ j, j < c → rSum k lo mo (j + 1) * b < rSum k lo mo (mo + 1 - lo) * a := by
  have hw : 0 < wS k (lo - k) := wS_pos hk (by omega)
  have hr : 0 < rS k lo mo 0 := rS0_pos
  have key : ∀ j, lo + j ≤ mo → (rSum k lo mo (j + 1) * b < rSum k lo mo (mo + 1 - lo) * a ↔ wSum k lo (j + 1) * b < wSum k lo (mo + 1 - lo) * a) := by
    intro j hj
    have e1 := rSum_w hk hkl hm (c := j + 1) (lo := lo) (mo := mo) (by omega)
    have e2 := rSum_w hk hkl hm (c := mo + 1 - lo) (lo := lo) (mo := mo) (by omega)
    generalize rSum k lo mo (j + 1) = A' at *
    generalize rSum k lo mo (mo + 1 - lo) = B' at *
    generalize wSum k lo (j + 1) = A at *
    generalize wSum k lo (mo + 1 - lo) = B at *
    generalize wS k (lo - k) = w at *
    generalize rS k lo mo 0 = r at *
    have f1 : A' * b * w = A * b * r := by grind
    have f2 : B' * a * w = B * a * r := by grind
    rw [← Nat.mul_lt_mul_right hw, f1, f2, Nat.mul_lt_mul_right hr]
  refine ⟨spE k lo (wSum k lo (mo + 1 - lo)) a b (mo - lo) 0, rfl, ?_, ?_, fun j hj => ?_⟩
  · have := (spE_le (k := k) (lo := lo) (W := wSum k lo (mo + 1 - lo)) (a := a) (b := b) (mo - lo) 0).2
    omega
  · have hle := (spE_le (k := k) (lo := lo) (W := wSum k lo (mo + 1 - lo)) (a := a) (b := b) (mo - lo) 0).2
    rw [← Nat.not_lt, key _ (by omega), Nat.not_lt]
    by_cases q : spE k lo (wSum k lo (mo + 1 - lo)) a b (mo - lo) 0 < 0 + (mo - lo)
    · exact spE_ge _ _ q
    · rw [show spE k lo (wSum k lo (mo + 1 - lo)) a b (mo - lo) 0 + 1 = mo + 1 - lo by omega]
      exact Nat.mul_le_mul_left _ hab
  · have hle := (spE_le (k := k) (lo := lo) (W := wSum k lo (mo + 1 - lo)) (a := a) (b := b) (mo - lo) 0).2
    rw [key _ (by omega)]
    exact spE_lt _ _ _ (by omega) hj
end RW
